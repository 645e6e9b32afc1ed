def fX12_laysRuns_82 (N : Nat) (g0_all : Nat → Int32) (rec11 : Int32 → Int32 → Int32 → Int32 → (Nat → Int32) → (Nat → Int32) → (Nat → Int32) → (Nat → Int32) → (Nat → Int32) → Option (Int32 × Int32 × Int32 × (Nat → Int32) × (Nat → Int32) × (Nat → Int32) × (Nat → Int32) × (Nat → Int32))) (rec28 : Int32 → Int32 → Int32 → Int32 → Int32 → Int32 → (Nat → Int32) → (Nat → Int32) → (Nat → Int32) → (Nat → Int32) → (Nat → Int32) → Option (Int32 × Int32 × Int32 × (Nat → Int32) × (Nat → Int32) × (Nat → Int32) × (Nat → Int32) × (Nat → Int32))) (x1 : Int32) (x2 : Int32) (x3 : Int32) (x4 : Int32) (v0_pieces : Int32) (v0_signs : Int32) (v0_runs : Int32) (g0_pieceSign : Nat → Int32) (g0_pieceFrom : Nat → Int32) (g0_runFrom : Nat → Int32) (g0_runLong : Nat → Int32) (g0_runPiece : Nat → Int32) : Option (Int32 × Int32 × Int32 × (Nat → Int32) × (Nat → Int32) × (Nat → Int32) × (Nat → Int32) × (Nat → Int32)) :=
  if x4 = (0 : Int32) then
    if x2 = (-1 : Int32) then
      rec28 x1 x2 (x3 + (1 : Int32)) v0_pieces v0_signs v0_runs g0_pieceSign g0_pieceFrom g0_runFrom g0_runLong g0_runPiece
    else
      if v0_runs < 0 ∨ 40 ≤ (v0_runs).toNatClampNeg then none else
      if v0_runs < 0 ∨ 40 ≤ (v0_runs).toNatClampNeg then none else
      if v0_runs < 0 ∨ 40 ≤ (v0_runs).toNatClampNeg then none else
      rec28 x1 (-1 : Int32) (x3 + (1 : Int32)) v0_pieces v0_signs (v0_runs + (1 : Int32)) g0_pieceSign g0_pieceFrom (upd g0_runFrom (v0_runs).toNatClampNeg x2) (upd g0_runLong (v0_runs).toNatClampNeg (x3 - x2)) (upd g0_runPiece (v0_runs).toNatClampNeg x1)
  else
    rec28 x1 x2 (x3 + (1 : Int32)) v0_pieces v0_signs v0_runs g0_pieceSign g0_pieceFrom g0_runFrom g0_runLong g0_runPiece
def fX12_laysRuns_68 (N : Nat) (g0_all : Nat → Int32) (rec11 : Int32 → Int32 → Int32 → Int32 → (Nat → Int32) → (Nat → Int32) → (Nat → Int32) → (Nat → Int32) → (Nat → Int32) → Option (Int32 × Int32 × Int32 × (Nat → Int32) × (Nat → Int32) × (Nat → Int32) × (Nat → Int32) × (Nat → Int32))) (rec28 : Int32 → Int32 → Int32 → Int32 → Int32 → Int32 → (Nat → Int32) → (Nat → Int32) → (Nat → Int32) → (Nat → Int32) → (Nat → Int32) → Option (Int32 × Int32 × Int32 × (Nat → Int32) × (Nat → Int32) × (Nat → Int32) × (Nat → Int32) × (Nat → Int32))) (y0 : Int32) (x1 : Int32) (x2 : Int32) (x3 : Int32) (v0_pieces : Int32) (v0_signs : Int32) (v0_runs : Int32) (g0_pieceSign : Nat → Int32) (g0_pieceFrom : Nat → Int32) (g0_runFrom : Nat → Int32) (g0_runLong : Nat → Int32) (g0_runPiece : Nat → Int32) : Option (Int32 × Int32 × Int32 × (Nat → Int32) × (Nat → Int32) × (Nat → Int32) × (Nat → Int32) × (Nat → Int32)) :=
  if y0 = (0 : Int32) then
    fX12_laysRuns_82 N g0_all rec11 rec28 x1 x2 x3 y0 v0_pieces v0_signs v0_runs g0_pieceSign g0_pieceFrom g0_runFrom g0_runLong g0_runPiece
  else
    if x2 = (-1 : Int32) then
      fX12_laysRuns_82 N g0_all rec11 rec28 x1 x3 x3 y0 v0_pieces v0_signs v0_runs g0_pieceSign g0_pieceFrom g0_runFrom g0_runLong g0_runPiece
    else
      fX12_laysRuns_82 N g0_all rec11 rec28 x1 x2 x3 y0 v0_pieces v0_signs v0_runs g0_pieceSign g0_pieceFrom g0_runFrom g0_runLong g0_runPiece
def fX12_laysRuns_67 (N : Nat) (g0_all : Nat → Int32) (rec11 : Int32 → Int32 → Int32 → Int32 → (Nat → Int32) → (Nat → Int32) → (Nat → Int32) → (Nat → Int32) → (Nat → Int32) → Option (Int32 × Int32 × Int32 × (Nat → Int32) × (Nat → Int32) × (Nat → Int32) × (Nat → Int32) × (Nat → Int32))) (rec28 : Int32 → Int32 → Int32 → Int32 → Int32 → Int32 → (Nat → Int32) → (Nat → Int32) → (Nat → Int32) → (Nat → Int32) → (Nat → Int32) → Option (Int32 × Int32 × Int32 × (Nat → Int32) × (Nat → Int32) × (Nat → Int32) × (Nat → Int32) × (Nat → Int32))) (x1 : Int32) (x2 : Int32) (x3 : Int32) (v0_pieces : Int32) (v0_signs : Int32) (v0_runs : Int32) (g0_pieceSign : Nat → Int32) (g0_pieceFrom : Nat → Int32) (g0_runFrom : Nat → Int32) (g0_runLong : Nat → Int32) (g0_runPiece : Nat → Int32) : Option (Int32 × Int32 × Int32 × (Nat → Int32) × (Nat → Int32) × (Nat → Int32) × (Nat → Int32) × (Nat → Int32)) :=
  fX12_laysRuns_68 N g0_all rec11 rec28 (0 : Int32) x1 x2 x3 v0_pieces v0_signs v0_runs g0_pieceSign g0_pieceFrom g0_runFrom g0_runLong g0_runPiece
def fX12_laysRuns_28 (N : Nat) (g0_all : Nat → Int32) (rec11 : Int32 → Int32 → Int32 → Int32 → (Nat → Int32) → (Nat → Int32) → (Nat → Int32) → (Nat → Int32) → (Nat → Int32) → Option (Int32 × Int32 × Int32 × (Nat → Int32) × (Nat → Int32) × (Nat → Int32) × (Nat → Int32) × (Nat → Int32))) : Nat → Int32 → Int32 → Int32 → Int32 → Int32 → Int32 → (Nat → Int32) → (Nat → Int32) → (Nat → Int32) → (Nat → Int32) → (Nat → Int32) → Option (Int32 × Int32 × Int32 × (Nat → Int32) × (Nat → Int32) × (Nat → Int32) × (Nat → Int32) × (Nat → Int32))
  | 0, _, _, _, _, _, _, _, _, _, _, _ => none
  | K + 1, x1, x2, x3, v0_pieces, v0_signs, v0_runs, g0_pieceSign, g0_pieceFrom, g0_runFrom, g0_runLong, g0_runPiece =>
    if (x1 + (1 : Int32)) < 0 ∨ 14 ≤ ((x1 + (1 : Int32))).toNatClampNeg then none else
    if (g0_pieceFrom ((x1 + (1 : Int32))).toNatClampNeg) < x3 then
      rec11 (x1 + (1 : Int32)) v0_pieces v0_signs v0_runs g0_pieceSign g0_pieceFrom g0_runFrom g0_runLong g0_runPiece
    else
      if (x1 + (1 : Int32)) < 0 ∨ 14 ≤ ((x1 + (1 : Int32))).toNatClampNeg then none else
      if (g0_pieceFrom ((x1 + (1 : Int32))).toNatClampNeg) ≤ x3 then
        fX12_laysRuns_67 N g0_all rec11 (fX12_laysRuns_28 N g0_all rec11 K) x1 x2 x3 v0_pieces v0_signs v0_runs g0_pieceSign g0_pieceFrom g0_runFrom g0_runLong g0_runPiece
      else
        if x3 < 0 ∨ 40 ≤ (x3).toNatClampNeg then none else
        if (g0_pieceSign (x3).toNatClampNeg) = (63 : Int32) then
          fX12_laysRuns_67 N g0_all rec11 (fX12_laysRuns_28 N g0_all rec11 K) x1 x2 x3 v0_pieces v0_signs v0_runs g0_pieceSign g0_pieceFrom g0_runFrom g0_runLong g0_runPiece
        else
          fX12_laysRuns_68 N g0_all rec11 (fX12_laysRuns_28 N g0_all rec11 K) (1 : Int32) x1 x2 x3 v0_pieces v0_signs v0_runs g0_pieceSign g0_pieceFrom g0_runFrom g0_runLong g0_runPiece
def fX12_laysRuns_11 (N : Nat) (g0_all : Nat → Int32) : Nat → Int32 → Int32 → Int32 → Int32 → (Nat → Int32) → (Nat → Int32) → (Nat → Int32) → (Nat → Int32) → (Nat → Int32) → Option (Int32 × Int32 × Int32 × (Nat → Int32) × (Nat → Int32) × (Nat → Int32) × (Nat → Int32) × (Nat → Int32))
  | 0, _, _, _, _, _, _, _, _, _ => none
  | K + 1, x1, v0_pieces, v0_signs, v0_runs, g0_pieceSign, g0_pieceFrom, g0_runFrom, g0_runLong, g0_runPiece =>
    if v0_pieces ≤ x1 then
      some (v0_pieces, v0_signs, v0_runs, g0_pieceSign, g0_pieceFrom, g0_runFrom, g0_runLong, g0_runPiece)
    else
      if x1 < 0 ∨ 14 ≤ (x1).toNatClampNeg then none else
      fX12_laysRuns_28 N g0_all (fX12_laysRuns_11 N g0_all K) N x1 (-1 : Int32) (g0_pieceFrom (x1).toNatClampNeg) v0_pieces v0_signs v0_runs g0_pieceSign g0_pieceFrom g0_runFrom g0_runLong g0_runPiece
def fX12_laysRuns (N : Nat) (v0_pieces : Int32) (v0_signs : Int32) (v0_runs : Int32) (g0_all : Nat → Int32) (g0_pieceSign : Nat → Int32) (g0_pieceFrom : Nat → Int32) (g0_runFrom : Nat → Int32) (g0_runLong : Nat → Int32) (g0_runPiece : Nat → Int32) : Option (Int32 × Int32 × Int32 × (Nat → Int32) × (Nat → Int32) × (Nat → Int32) × (Nat → Int32) × (Nat → Int32)) :=
  Option.bind (fX12_laysPieces N v0_pieces v0_signs g0_all g0_pieceSign g0_pieceFrom) fun r1 =>
  fX12_laysRuns_11 N g0_all N (0 : Int32) r1.1 r1.2.1 (0 : Int32) r1.2.2.1 r1.2.2.2 g0_runFrom g0_runLong g0_runPiece
set_option maxHeartbeats 4000000 in
set_option maxRecDepth 100000 in
theorem mX12_laysRuns (l : Launch) (D : zG) (a0 : Nat) (a0_all : Nat) (a0_tape : Nat) (a0_isImage : Nat) (a0_turnWord : Nat) (a0_turnFrom : Nat) (a0_pieceSign : Nat) (a0_pieceFrom : Nat) (a0_runFrom : Nat) (a0_runLong : Nat) (a0_runPiece : Nat) (a0_alike : Nat) (a0_stood : Nat) (sz : Nat)  (v0_taped : Int32) (v0_faultKind : Int32) (v0_faultPlace : Int32) (v0_undos : Int32) (v0_turns : Int32) (v0_pieces : Int32) (v0_signs : Int32) (v0_runs : Int32) (g0_all : Nat → Int32) (g0_pieceSign : Nat → Int32) (g0_pieceFrom : Nat → Int32) (g0_runFrom : Nat → Int32) (g0_runLong : Nat → Int32) (g0_runPiece : Nat → Int32)  (N : Nat) (res : Int32 × Int32 × Int32 × (Nat → Int32) × (Nat → Int32) × (Nat → Int32) × (Nat → Int32) × (Nat → Int32)) (hf : fX12_laysRuns N v0_pieces v0_signs v0_runs g0_all g0_pieceSign g0_pieceFrom g0_runFrom g0_runLong g0_runPiece = some res) : Met l yX12_laysRuns wsX12_laysRuns ({ frames := 2, cells := 0, slots := 0, locals := 47 } : Room) (va_Pc [.ref a0] (zW D sz [(a0, .inr (9, [.ref a0_all, .ref a0_tape, .ref a0_isImage, .int v0_taped, .int v0_faultKind, .int v0_faultPlace, .int v0_undos, .ref a0_turnWord, .ref a0_turnFrom, .int v0_turns, .ref a0_pieceSign, .ref a0_pieceFrom, .int v0_pieces, .int v0_signs, .ref a0_runFrom, .ref a0_runLong, .ref a0_runPiece, .int v0_runs, .ref a0_alike, .ref a0_stood])), (a0_all, .inl (D.2 1, 5228, .inl g0_all)), (a0_pieceSign, .inl (D.2 1, 40, .inl g0_pieceSign)), (a0_pieceFrom, .inl (D.2 1, 14, .inl g0_pieceFrom)), (a0_runFrom, .inl (D.2 1, 40, .inl g0_runFrom)), (a0_runLong, .inl (D.2 1, 40, .inl g0_runLong)), (a0_runPiece, .inl (D.2 1, 40, .inl g0_runPiece))])) (va_Qv (fun (_ : Unit) => True) (fun _ => zB D (va_A [(a0, .inr (9, [.ref a0_all, .ref a0_tape, .ref a0_isImage, .int v0_taped, .int v0_faultKind, .int v0_faultPlace, .int v0_undos, .ref a0_turnWord, .ref a0_turnFrom, .int v0_turns, .ref a0_pieceSign, .ref a0_pieceFrom, .int v0_pieces, .int v0_signs, .ref a0_runFrom, .ref a0_runLong, .ref a0_runPiece, .int v0_runs, .ref a0_alike, .ref a0_stood])), (a0_all, .inl (D.2 1, 5228, .inl g0_all)), (a0_pieceSign, .inl (D.2 1, 40, .inl g0_pieceSign)), (a0_pieceFrom, .inl (D.2 1, 14, .inl g0_pieceFrom)), (a0_runFrom, .inl (D.2 1, 40, .inl g0_runFrom)), (a0_runLong, .inl (D.2 1, 40, .inl g0_runLong)), (a0_runPiece, .inl (D.2 1, 40, .inl g0_runPiece))] sz) [(a0, .inr (9, [.ref a0_all, .ref a0_tape, .ref a0_isImage, .int v0_taped, .int v0_faultKind, .int v0_faultPlace, .int v0_undos, .ref a0_turnWord, .ref a0_turnFrom, .int v0_turns, .ref a0_pieceSign, .ref a0_pieceFrom, .int res.1, .int res.2.1, .ref a0_runFrom, .ref a0_runLong, .ref a0_runPiece, .int res.2.2.1, .ref a0_alike, .ref a0_stood])), (a0_all, .inl (D.2 1, 5228, .inl g0_all)), (a0_pieceSign, .inl (D.2 1, 40, .inl res.2.2.2.1)), (a0_pieceFrom, .inl (D.2 1, 14, .inl res.2.2.2.2.1)), (a0_runFrom, .inl (D.2 1, 40, .inl res.2.2.2.2.2.1)), (a0_runLong, .inl (D.2 1, 40, .inl res.2.2.2.2.2.2.1)), (a0_runPiece, .inl (D.2 1, 40, .inl res.2.2.2.2.2.2.2))]) (va_A [(a0, .inr (9, [.ref a0_all, .ref a0_tape, .ref a0_isImage, .int v0_taped, .int v0_faultKind, .int v0_faultPlace, .int v0_undos, .ref a0_turnWord, .ref a0_turnFrom, .int v0_turns, .ref a0_pieceSign, .ref a0_pieceFrom, .int v0_pieces, .int v0_signs, .ref a0_runFrom, .ref a0_runLong, .ref a0_runPiece, .int v0_runs, .ref a0_alike, .ref a0_stood])), (a0_all, .inl (D.2 1, 5228, .inl g0_all)), (a0_pieceSign, .inl (D.2 1, 40, .inl g0_pieceSign)), (a0_pieceFrom, .inl (D.2 1, 14, .inl g0_pieceFrom)), (a0_runFrom, .inl (D.2 1, 40, .inl g0_runFrom)), (a0_runLong, .inl (D.2 1, 40, .inl g0_runLong)), (a0_runPiece, .inl (D.2 1, 40, .inl g0_runPiece))] sz)) 0 0 (va_A [(a0, .inr (9, [.ref a0_all, .ref a0_tape, .ref a0_isImage, .int v0_taped, .int v0_faultKind, .int v0_faultPlace, .int v0_undos, .ref a0_turnWord, .ref a0_turnFrom, .int v0_turns, .ref a0_pieceSign, .ref a0_pieceFrom, .int v0_pieces, .int v0_signs, .ref a0_runFrom, .ref a0_runLong, .ref a0_runPiece, .int v0_runs, .ref a0_alike, .ref a0_stood])), (a0_all, .inl (D.2 1, 5228, .inl g0_all)), (a0_pieceSign, .inl (D.2 1, 40, .inl g0_pieceSign)), (a0_pieceFrom, .inl (D.2 1, 14, .inl g0_pieceFrom)), (a0_runFrom, .inl (D.2 1, 40, .inl g0_runFrom)), (a0_runLong, .inl (D.2 1, 40, .inl g0_runLong)), (a0_runPiece, .inl (D.2 1, 40, .inl g0_runPiece))] sz) := by
  refine Met.ofW (cc := cX12_laysRuns) (maxL := 5) (ret := none) (by decide) rfl ?_
  intro p e s m args below meth c s₁ B hml hv
  obtain ⟨rfl, hsz, hP, hK, hD0⟩ := hv
  have hx := B.exec
  have hb := B.bytes
  have hr := B.returns
  have hts := atoms_spec (ws := wsX12_laysRuns) B.pre
  have hown : s.vm.findClass RX12 = some m.cls := findClass_of_methodNamed B.named
  have hlocks := B.notSynchronized
  subst hsz
  have hD := hD0.self (sz := s.heap.size)
  generalize hAe : va_A [(a0, .inr (9, [.ref a0_all, .ref a0_tape, .ref a0_isImage, .int v0_taped, .int v0_faultKind, .int v0_faultPlace, .int v0_undos, .ref a0_turnWord, .ref a0_turnFrom, .int v0_turns, .ref a0_pieceSign, .ref a0_pieceFrom, .int v0_pieces, .int v0_signs, .ref a0_runFrom, .ref a0_runLong, .ref a0_runPiece, .int v0_runs, .ref a0_alike, .ref a0_stood])), (a0_all, .inl (D.2 1, 5228, .inl g0_all)), (a0_pieceSign, .inl (D.2 1, 40, .inl g0_pieceSign)), (a0_pieceFrom, .inl (D.2 1, 14, .inl g0_pieceFrom)), (a0_runFrom, .inl (D.2 1, 40, .inl g0_runFrom)), (a0_runLong, .inl (D.2 1, 40, .inl g0_runLong)), (a0_runPiece, .inl (D.2 1, 40, .inl g0_runPiece))] s.heap.size = A at hD ⊢
  have hA : ∀ q : Nat, s.heap.size ≤ q → A q := fun q h => by rw [← hAe]; exact Or.inr h
  have l122 := zat hts 1 (w := .fieldLink RX12 122 "TurnedWordsModel" "runs" "I") rfl
  have l107 := zat hts 2 (w := .fieldLink RX12 107 "TurnedWordsModel" "pieces" "I") rfl
  have l33 := zat hts 3 (w := .fieldLink RX12 33 "TurnedWordsModel" "pieceFrom" "[I") rfl
  have l30 := zat hts 4 (w := .fieldLink RX12 30 "TurnedWordsModel" "pieceSign" "[I") rfl
  have l36 := zat hts 5 (w := .fieldLink RX12 36 "TurnedWordsModel" "runFrom" "[I") rfl
  have l39 := zat hts 6 (w := .fieldLink RX12 39 "TurnedWordsModel" "runLong" "[I") rfl
  have l42 := zat hts 7 (w := .fieldLink RX12 42 "TurnedWordsModel" "runPiece" "[I") rfl
  have hwX12 : ∀ w ∈ u_ws RX12 TX12 20, w ∈ wsX12_laysRuns := fun w h => List.mem_cons_of_mem _ (List.mem_append_right _ h)
  have hl := lv_entry ([.ref a0]) (n := 5) (Nat.le_of_ble_eq_true rfl)
  rw [lg_entry_eq]
  generalize (lg_sl ([.ref a0]) ++ List.replicate (5 - (lg_sl ([.ref a0])).length) Slot.unset).toArray = ls at hl ⊢
  have hl : lv_has ls 5 [(0, .ref a0)] := hl
  refine zStart (A := A) hP (fun Q0 H locs hQ hP hS => ?_)
  have k82 : ∀ (rec11 : Int32 → Int32 → Int32 → Int32 → (Nat → Int32) → (Nat → Int32) → (Nat → Int32) → (Nat → Int32) → (Nat → Int32) → Option (Int32 × Int32 × Int32 × (Nat → Int32) × (Nat → Int32) × (Nat → Int32) × (Nat → Int32) × (Nat → Int32))), (∀ (x1 : Int32) (v0_pieces : Int32) (v0_signs : Int32) (v0_runs : Int32) (g0_pieceSign : Nat → Int32) (g0_pieceFrom : Nat → Int32) (g0_runFrom : Nat → Int32) (g0_runLong : Nat → Int32) (g0_runPiece : Nat → Int32) (H : Heap) (locs : List Loc) (ls : Array Slot), rec11 x1 v0_pieces v0_signs v0_runs g0_pieceSign g0_pieceFrom g0_runFrom g0_runLong g0_runPiece = some res → va_P D.1 vwCl [(a0, .inr (9, [.ref a0_all, .ref a0_tape, .ref a0_isImage, .int v0_taped, .int v0_faultKind, .int v0_faultPlace, .int v0_undos, .ref a0_turnWord, .ref a0_turnFrom, .int v0_turns, .ref a0_pieceSign, .ref a0_pieceFrom, .int v0_pieces, .int v0_signs, .ref a0_runFrom, .ref a0_runLong, .ref a0_runPiece, .int v0_runs, .ref a0_alike, .ref a0_stood])), (a0_all, .inl (D.2 1, 5228, .inl g0_all)), (a0_pieceSign, .inl (D.2 1, 40, .inl g0_pieceSign)), (a0_pieceFrom, .inl (D.2 1, 14, .inl g0_pieceFrom)), (a0_runFrom, .inl (D.2 1, 40, .inl g0_runFrom)), (a0_runLong, .inl (D.2 1, 40, .inl g0_runLong)), (a0_runPiece, .inl (D.2 1, 40, .inl g0_runPiece))] H → va_D A [(a0, .inr (9, [.ref a0_all, .ref a0_tape, .ref a0_isImage, .int v0_taped, .int v0_faultKind, .int v0_faultPlace, .int v0_undos, .ref a0_turnWord, .ref a0_turnFrom, .int v0_turns, .ref a0_pieceSign, .ref a0_pieceFrom, .int v0_pieces, .int v0_signs, .ref a0_runFrom, .ref a0_runLong, .ref a0_runPiece, .int v0_runs, .ref a0_alike, .ref a0_stood])), (a0_all, .inl (D.2 1, 5228, .inl g0_all)), (a0_pieceSign, .inl (D.2 1, 40, .inl g0_pieceSign)), (a0_pieceFrom, .inl (D.2 1, 14, .inl g0_pieceFrom)), (a0_runFrom, .inl (D.2 1, 40, .inl g0_runFrom)), (a0_runLong, .inl (D.2 1, 40, .inl g0_runLong)), (a0_runPiece, .inl (D.2 1, 40, .inl g0_runPiece))] → va_S A s.heap H locs → lv_has ls 5 [(0, .ref a0), (1, .int x1)] → W p l e (headSpec wsX12_laysRuns ({ frames := 2, cells := 0, slots := 0, locals := 47 } : Room)).room s m ([.ref a0] : List Value).toArray below meth c H locs 0 0 Q0 (F0 m 11 ls [])) → ∀ (rec28 : Int32 → Int32 → Int32 → Int32 → Int32 → Int32 → (Nat → Int32) → (Nat → Int32) → (Nat → Int32) → (Nat → Int32) → (Nat → Int32) → Option (Int32 × Int32 × Int32 × (Nat → Int32) × (Nat → Int32) × (Nat → Int32) × (Nat → Int32) × (Nat → Int32))), (∀ (x1 : Int32) (x2 : Int32) (x3 : Int32) (v0_pieces : Int32) (v0_signs : Int32) (v0_runs : Int32) (g0_pieceSign : Nat → Int32) (g0_pieceFrom : Nat → Int32) (g0_runFrom : Nat → Int32) (g0_runLong : Nat → Int32) (g0_runPiece : Nat → Int32) (H : Heap) (locs : List Loc) (ls : Array Slot), rec28 x1 x2 x3 v0_pieces v0_signs v0_runs g0_pieceSign g0_pieceFrom g0_runFrom g0_runLong g0_runPiece = some res → va_P D.1 vwCl [(a0, .inr (9, [.ref a0_all, .ref a0_tape, .ref a0_isImage, .int v0_taped, .int v0_faultKind, .int v0_faultPlace, .int v0_undos, .ref a0_turnWord, .ref a0_turnFrom, .int v0_turns, .ref a0_pieceSign, .ref a0_pieceFrom, .int v0_pieces, .int v0_signs, .ref a0_runFrom, .ref a0_runLong, .ref a0_runPiece, .int v0_runs, .ref a0_alike, .ref a0_stood])), (a0_all, .inl (D.2 1, 5228, .inl g0_all)), (a0_pieceSign, .inl (D.2 1, 40, .inl g0_pieceSign)), (a0_pieceFrom, .inl (D.2 1, 14, .inl g0_pieceFrom)), (a0_runFrom, .inl (D.2 1, 40, .inl g0_runFrom)), (a0_runLong, .inl (D.2 1, 40, .inl g0_runLong)), (a0_runPiece, .inl (D.2 1, 40, .inl g0_runPiece))] H → va_D A [(a0, .inr (9, [.ref a0_all, .ref a0_tape, .ref a0_isImage, .int v0_taped, .int v0_faultKind, .int v0_faultPlace, .int v0_undos, .ref a0_turnWord, .ref a0_turnFrom, .int v0_turns, .ref a0_pieceSign, .ref a0_pieceFrom, .int v0_pieces, .int v0_signs, .ref a0_runFrom, .ref a0_runLong, .ref a0_runPiece, .int v0_runs, .ref a0_alike, .ref a0_stood])), (a0_all, .inl (D.2 1, 5228, .inl g0_all)), (a0_pieceSign, .inl (D.2 1, 40, .inl g0_pieceSign)), (a0_pieceFrom, .inl (D.2 1, 14, .inl g0_pieceFrom)), (a0_runFrom, .inl (D.2 1, 40, .inl g0_runFrom)), (a0_runLong, .inl (D.2 1, 40, .inl g0_runLong)), (a0_runPiece, .inl (D.2 1, 40, .inl g0_runPiece))] → va_S A s.heap H locs → lv_has ls 5 [(0, .ref a0), (1, .int x1), (2, .int x2), (3, .int x3)] → W p l e (headSpec wsX12_laysRuns ({ frames := 2, cells := 0, slots := 0, locals := 47 } : Room)).room s m ([.ref a0] : List Value).toArray below meth c H locs 0 0 Q0 (F0 m 28 ls [])) → ∀ (x1 : Int32) (x2 : Int32) (x3 : Int32) (x4 : Int32) (v0_pieces : Int32) (v0_signs : Int32) (v0_runs : Int32) (g0_pieceSign : Nat → Int32) (g0_pieceFrom : Nat → Int32) (g0_runFrom : Nat → Int32) (g0_runLong : Nat → Int32) (g0_runPiece : Nat → Int32) (H : Heap) (locs : List Loc) (ls : Array Slot), fX12_laysRuns_82 N g0_all rec11 rec28 x1 x2 x3 x4 v0_pieces v0_signs v0_runs g0_pieceSign g0_pieceFrom g0_runFrom g0_runLong g0_runPiece = some res → va_P D.1 vwCl [(a0, .inr (9, [.ref a0_all, .ref a0_tape, .ref a0_isImage, .int v0_taped, .int v0_faultKind, .int v0_faultPlace, .int v0_undos, .ref a0_turnWord, .ref a0_turnFrom, .int v0_turns, .ref a0_pieceSign, .ref a0_pieceFrom, .int v0_pieces, .int v0_signs, .ref a0_runFrom, .ref a0_runLong, .ref a0_runPiece, .int v0_runs, .ref a0_alike, .ref a0_stood])), (a0_all, .inl (D.2 1, 5228, .inl g0_all)), (a0_pieceSign, .inl (D.2 1, 40, .inl g0_pieceSign)), (a0_pieceFrom, .inl (D.2 1, 14, .inl g0_pieceFrom)), (a0_runFrom, .inl (D.2 1, 40, .inl g0_runFrom)), (a0_runLong, .inl (D.2 1, 40, .inl g0_runLong)), (a0_runPiece, .inl (D.2 1, 40, .inl g0_runPiece))] H → va_D A [(a0, .inr (9, [.ref a0_all, .ref a0_tape, .ref a0_isImage, .int v0_taped, .int v0_faultKind, .int v0_faultPlace, .int v0_undos, .ref a0_turnWord, .ref a0_turnFrom, .int v0_turns, .ref a0_pieceSign, .ref a0_pieceFrom, .int v0_pieces, .int v0_signs, .ref a0_runFrom, .ref a0_runLong, .ref a0_runPiece, .int v0_runs, .ref a0_alike, .ref a0_stood])), (a0_all, .inl (D.2 1, 5228, .inl g0_all)), (a0_pieceSign, .inl (D.2 1, 40, .inl g0_pieceSign)), (a0_pieceFrom, .inl (D.2 1, 14, .inl g0_pieceFrom)), (a0_runFrom, .inl (D.2 1, 40, .inl g0_runFrom)), (a0_runLong, .inl (D.2 1, 40, .inl g0_runLong)), (a0_runPiece, .inl (D.2 1, 40, .inl g0_runPiece))] → va_S A s.heap H locs → lv_has ls 5 [(0, .ref a0), (1, .int x1), (2, .int x2), (3, .int x3), (4, .int x4)] → W p l e (headSpec wsX12_laysRuns ({ frames := 2, cells := 0, slots := 0, locals := 47 } : Room)).room s m ([.ref a0] : List Value).toArray below meth c H locs 0 0 Q0 (F0 m 82 ls []) := by
    intro rec11 hrec11 rec28 hrec28 x1 x2 x3 x4 v0_pieces v0_signs v0_runs g0_pieceSign g0_pieceFrom g0_runFrom g0_runLong g0_runPiece H locs ls hf hP hD hS hl
    unfold fX12_laysRuns_82 at hf
    refine lv_iload hx hb dX12_laysRuns_82 (lv_at hl 4 rfl) ?_
    refine lv_if_ne (tgt := 139) hx hb dX12_laysRuns_84 (by decide) (fun c_12 => ?_) (fun c_12 => ?_)
    · replace hf := im c_12 hf
      refine lv_iinc (v := (x3 + (1 : Int32))) (lv' := [(3, .int (x3 + (1 : Int32))), (0, .ref a0), (1, .int x1), (2, .int x2), (4, .int x4)]) hx hb dX12_laysRuns_139 hl (k := 3) rfl rfl (by decide) rfl (fun ls hl => ?_)
      refine lv_goto (tgt := 28) hx hb dX12_laysRuns_142 (by decide) ?_
      exact hrec28 x1 x2 (x3 + (1 : Int32)) v0_pieces v0_signs v0_runs g0_pieceSign g0_pieceFrom g0_runFrom g0_runLong g0_runPiece H locs ls hf hP hD hS (lv_sub hl [1, 2, 3, 0] rfl)
    · replace hf := ip c_12 hf
      refine lv_iload_n hx hb dX12_laysRuns_87 rfl (lv_at hl 2 rfl) ?_
      refine lv_iconst (v := -1) hx hb dX12_laysRuns_88 (by decide) ?_
      refine lv_icmp_ne (tgt := 95) hx hb dX12_laysRuns_89 (by decide) (fun c_13 => ?_) (fun c_13 => ?_)
      · replace hf := im c_13 hf
        refine lv_aload_n hx hb dX12_laysRuns_95 rfl (lv_at hl 0 rfl) ?_
        refine va_get (D := D.1) (ci := 9) (v := .ref a0_runFrom) (C := RX12) (T := TX12) (N := 20) hx hb hts hwX12 hown hK.1 hP 0 rfl rfl 14 (by decide) l36 (fun _ h9 => h9) rfl dX12_laysRuns_96 ?_
        refine lv_aload_n hx hb dX12_laysRuns_99 rfl (lv_at hl 0 rfl) ?_
        refine va_get (D := D.1) (ci := 9) (v := .int v0_runs) (C := RX12) (T := TX12) (N := 20) hx hb hts hwX12 hown hK.1 hP 0 rfl rfl 17 (by decide) l122 (fun _ h9 => h9) rfl dX12_laysRuns_100 ?_
        refine lv_iload_n hx hb dX12_laysRuns_103 rfl (lv_at hl 2 rfl) ?_
        obtain ⟨h_14, hf⟩ := gd hf
        refine va_iast hx hb hK.1 hP hD hS 4 1 rfl rfl h_14 dX12_laysRuns_104 (fun H locs hP hD hS => ?_)
        have hP : va_P D.1 vwCl [(a0, .inr (9, [.ref a0_all, .ref a0_tape, .ref a0_isImage, .int v0_taped, .int v0_faultKind, .int v0_faultPlace, .int v0_undos, .ref a0_turnWord, .ref a0_turnFrom, .int v0_turns, .ref a0_pieceSign, .ref a0_pieceFrom, .int v0_pieces, .int v0_signs, .ref a0_runFrom, .ref a0_runLong, .ref a0_runPiece, .int v0_runs, .ref a0_alike, .ref a0_stood])), (a0_all, .inl (D.2 1, 5228, .inl g0_all)), (a0_pieceSign, .inl (D.2 1, 40, .inl g0_pieceSign)), (a0_pieceFrom, .inl (D.2 1, 14, .inl g0_pieceFrom)), (a0_runFrom, .inl (D.2 1, 40, .inl (upd g0_runFrom (v0_runs).toNatClampNeg x2))), (a0_runLong, .inl (D.2 1, 40, .inl g0_runLong)), (a0_runPiece, .inl (D.2 1, 40, .inl g0_runPiece))] H := hP
        have hD : va_D A [(a0, .inr (9, [.ref a0_all, .ref a0_tape, .ref a0_isImage, .int v0_taped, .int v0_faultKind, .int v0_faultPlace, .int v0_undos, .ref a0_turnWord, .ref a0_turnFrom, .int v0_turns, .ref a0_pieceSign, .ref a0_pieceFrom, .int v0_pieces, .int v0_signs, .ref a0_runFrom, .ref a0_runLong, .ref a0_runPiece, .int v0_runs, .ref a0_alike, .ref a0_stood])), (a0_all, .inl (D.2 1, 5228, .inl g0_all)), (a0_pieceSign, .inl (D.2 1, 40, .inl g0_pieceSign)), (a0_pieceFrom, .inl (D.2 1, 14, .inl g0_pieceFrom)), (a0_runFrom, .inl (D.2 1, 40, .inl (upd g0_runFrom (v0_runs).toNatClampNeg x2))), (a0_runLong, .inl (D.2 1, 40, .inl g0_runLong)), (a0_runPiece, .inl (D.2 1, 40, .inl g0_runPiece))] := hD
        refine lv_aload_n hx hb dX12_laysRuns_105 rfl (lv_at hl 0 rfl) ?_
        refine va_get (D := D.1) (ci := 9) (v := .ref a0_runLong) (C := RX12) (T := TX12) (N := 20) hx hb hts hwX12 hown hK.1 hP 0 rfl rfl 15 (by decide) l39 (fun _ h9 => h9) rfl dX12_laysRuns_106 ?_
        refine lv_aload_n hx hb dX12_laysRuns_109 rfl (lv_at hl 0 rfl) ?_
        refine va_get (D := D.1) (ci := 9) (v := .int v0_runs) (C := RX12) (T := TX12) (N := 20) hx hb hts hwX12 hown hK.1 hP 0 rfl rfl 17 (by decide) l122 (fun _ h9 => h9) rfl dX12_laysRuns_110 ?_
        refine lv_iload_n hx hb dX12_laysRuns_113 rfl (lv_at hl 3 rfl) ?_
        refine lv_iload_n hx hb dX12_laysRuns_114 rfl (lv_at hl 2 rfl) ?_
        refine lv_isub hx hb dX12_laysRuns_115 ?_
        obtain ⟨h_15, hf⟩ := gd hf
        refine va_iast hx hb hK.1 hP hD hS 5 1 rfl rfl h_15 dX12_laysRuns_116 (fun H locs hP hD hS => ?_)
        have hP : va_P D.1 vwCl [(a0, .inr (9, [.ref a0_all, .ref a0_tape, .ref a0_isImage, .int v0_taped, .int v0_faultKind, .int v0_faultPlace, .int v0_undos, .ref a0_turnWord, .ref a0_turnFrom, .int v0_turns, .ref a0_pieceSign, .ref a0_pieceFrom, .int v0_pieces, .int v0_signs, .ref a0_runFrom, .ref a0_runLong, .ref a0_runPiece, .int v0_runs, .ref a0_alike, .ref a0_stood])), (a0_all, .inl (D.2 1, 5228, .inl g0_all)), (a0_pieceSign, .inl (D.2 1, 40, .inl g0_pieceSign)), (a0_pieceFrom, .inl (D.2 1, 14, .inl g0_pieceFrom)), (a0_runFrom, .inl (D.2 1, 40, .inl (upd g0_runFrom (v0_runs).toNatClampNeg x2))), (a0_runLong, .inl (D.2 1, 40, .inl (upd g0_runLong (v0_runs).toNatClampNeg (x3 - x2)))), (a0_runPiece, .inl (D.2 1, 40, .inl g0_runPiece))] H := hP
        have hD : va_D A [(a0, .inr (9, [.ref a0_all, .ref a0_tape, .ref a0_isImage, .int v0_taped, .int v0_faultKind, .int v0_faultPlace, .int v0_undos, .ref a0_turnWord, .ref a0_turnFrom, .int v0_turns, .ref a0_pieceSign, .ref a0_pieceFrom, .int v0_pieces, .int v0_signs, .ref a0_runFrom, .ref a0_runLong, .ref a0_runPiece, .int v0_runs, .ref a0_alike, .ref a0_stood])), (a0_all, .inl (D.2 1, 5228, .inl g0_all)), (a0_pieceSign, .inl (D.2 1, 40, .inl g0_pieceSign)), (a0_pieceFrom, .inl (D.2 1, 14, .inl g0_pieceFrom)), (a0_runFrom, .inl (D.2 1, 40, .inl (upd g0_runFrom (v0_runs).toNatClampNeg x2))), (a0_runLong, .inl (D.2 1, 40, .inl (upd g0_runLong (v0_runs).toNatClampNeg (x3 - x2)))), (a0_runPiece, .inl (D.2 1, 40, .inl g0_runPiece))] := hD
        refine lv_aload_n hx hb dX12_laysRuns_117 rfl (lv_at hl 0 rfl) ?_
        refine va_get (D := D.1) (ci := 9) (v := .ref a0_runPiece) (C := RX12) (T := TX12) (N := 20) hx hb hts hwX12 hown hK.1 hP 0 rfl rfl 16 (by decide) l42 (fun _ h9 => h9) rfl dX12_laysRuns_118 ?_
        refine lv_aload_n hx hb dX12_laysRuns_121 rfl (lv_at hl 0 rfl) ?_
        refine va_get (D := D.1) (ci := 9) (v := .int v0_runs) (C := RX12) (T := TX12) (N := 20) hx hb hts hwX12 hown hK.1 hP 0 rfl rfl 17 (by decide) l122 (fun _ h9 => h9) rfl dX12_laysRuns_122 ?_
        refine lv_iload_n hx hb dX12_laysRuns_125 rfl (lv_at hl 1 rfl) ?_
        obtain ⟨h_16, hf⟩ := gd hf
        refine va_iast hx hb hK.1 hP hD hS 6 1 rfl rfl h_16 dX12_laysRuns_126 (fun H locs hP hD hS => ?_)
        have hP : va_P D.1 vwCl [(a0, .inr (9, [.ref a0_all, .ref a0_tape, .ref a0_isImage, .int v0_taped, .int v0_faultKind, .int v0_faultPlace, .int v0_undos, .ref a0_turnWord, .ref a0_turnFrom, .int v0_turns, .ref a0_pieceSign, .ref a0_pieceFrom, .int v0_pieces, .int v0_signs, .ref a0_runFrom, .ref a0_runLong, .ref a0_runPiece, .int v0_runs, .ref a0_alike, .ref a0_stood])), (a0_all, .inl (D.2 1, 5228, .inl g0_all)), (a0_pieceSign, .inl (D.2 1, 40, .inl g0_pieceSign)), (a0_pieceFrom, .inl (D.2 1, 14, .inl g0_pieceFrom)), (a0_runFrom, .inl (D.2 1, 40, .inl (upd g0_runFrom (v0_runs).toNatClampNeg x2))), (a0_runLong, .inl (D.2 1, 40, .inl (upd g0_runLong (v0_runs).toNatClampNeg (x3 - x2)))), (a0_runPiece, .inl (D.2 1, 40, .inl (upd g0_runPiece (v0_runs).toNatClampNeg x1)))] H := hP
        have hD : va_D A [(a0, .inr (9, [.ref a0_all, .ref a0_tape, .ref a0_isImage, .int v0_taped, .int v0_faultKind, .int v0_faultPlace, .int v0_undos, .ref a0_turnWord, .ref a0_turnFrom, .int v0_turns, .ref a0_pieceSign, .ref a0_pieceFrom, .int v0_pieces, .int v0_signs, .ref a0_runFrom, .ref a0_runLong, .ref a0_runPiece, .int v0_runs, .ref a0_alike, .ref a0_stood])), (a0_all, .inl (D.2 1, 5228, .inl g0_all)), (a0_pieceSign, .inl (D.2 1, 40, .inl g0_pieceSign)), (a0_pieceFrom, .inl (D.2 1, 14, .inl g0_pieceFrom)), (a0_runFrom, .inl (D.2 1, 40, .inl (upd g0_runFrom (v0_runs).toNatClampNeg x2))), (a0_runLong, .inl (D.2 1, 40, .inl (upd g0_runLong (v0_runs).toNatClampNeg (x3 - x2)))), (a0_runPiece, .inl (D.2 1, 40, .inl (upd g0_runPiece (v0_runs).toNatClampNeg x1)))] := hD
        refine lv_aload_n hx hb dX12_laysRuns_127 rfl (lv_at hl 0 rfl) ?_
        refine lv_dup hx hb dX12_laysRuns_128 rfl ?_
        refine va_get (D := D.1) (ci := 9) (v := .int v0_runs) (C := RX12) (T := TX12) (N := 20) hx hb hts hwX12 hown hK.1 hP 0 rfl rfl 17 (by decide) l122 (fun _ h9 => h9) rfl dX12_laysRuns_129 ?_
        refine lv_iconst (v := 1) hx hb dX12_laysRuns_132 (by decide) ?_
        refine lv_iadd hx hb dX12_laysRuns_133 ?_
        refine va_put (D := D.1) (ci := 9) (v := .int (v0_runs + (1 : Int32))) (ty := .int) (C := RX12) (T := TX12) (N := 20) hx hb hts hwX12 tyX12 tyX12_ok nmX12 hown hK.1 hP hD hS 0 rfl rfl 17 (by decide) l122 (fun _ h9 => h9) rfl (by decide +kernel) rfl rfl (Nat.le_of_ble_eq_true rfl) dX12_laysRuns_134 (fun H locs hP hD hS => ?_)
        have hP : va_P D.1 vwCl [(a0, .inr (9, [.ref a0_all, .ref a0_tape, .ref a0_isImage, .int v0_taped, .int v0_faultKind, .int v0_faultPlace, .int v0_undos, .ref a0_turnWord, .ref a0_turnFrom, .int v0_turns, .ref a0_pieceSign, .ref a0_pieceFrom, .int v0_pieces, .int v0_signs, .ref a0_runFrom, .ref a0_runLong, .ref a0_runPiece, .int (v0_runs + (1 : Int32)), .ref a0_alike, .ref a0_stood])), (a0_all, .inl (D.2 1, 5228, .inl g0_all)), (a0_pieceSign, .inl (D.2 1, 40, .inl g0_pieceSign)), (a0_pieceFrom, .inl (D.2 1, 14, .inl g0_pieceFrom)), (a0_runFrom, .inl (D.2 1, 40, .inl (upd g0_runFrom (v0_runs).toNatClampNeg x2))), (a0_runLong, .inl (D.2 1, 40, .inl (upd g0_runLong (v0_runs).toNatClampNeg (x3 - x2)))), (a0_runPiece, .inl (D.2 1, 40, .inl (upd g0_runPiece (v0_runs).toNatClampNeg x1)))] H := hP
        have hD : va_D A [(a0, .inr (9, [.ref a0_all, .ref a0_tape, .ref a0_isImage, .int v0_taped, .int v0_faultKind, .int v0_faultPlace, .int v0_undos, .ref a0_turnWord, .ref a0_turnFrom, .int v0_turns, .ref a0_pieceSign, .ref a0_pieceFrom, .int v0_pieces, .int v0_signs, .ref a0_runFrom, .ref a0_runLong, .ref a0_runPiece, .int (v0_runs + (1 : Int32)), .ref a0_alike, .ref a0_stood])), (a0_all, .inl (D.2 1, 5228, .inl g0_all)), (a0_pieceSign, .inl (D.2 1, 40, .inl g0_pieceSign)), (a0_pieceFrom, .inl (D.2 1, 14, .inl g0_pieceFrom)), (a0_runFrom, .inl (D.2 1, 40, .inl (upd g0_runFrom (v0_runs).toNatClampNeg x2))), (a0_runLong, .inl (D.2 1, 40, .inl (upd g0_runLong (v0_runs).toNatClampNeg (x3 - x2)))), (a0_runPiece, .inl (D.2 1, 40, .inl (upd g0_runPiece (v0_runs).toNatClampNeg x1)))] := hD
        refine lv_iconst (v := -1) hx hb dX12_laysRuns_137 (by decide) ?_
        refine lv_istore_n (lv' := [(2, .int (-1 : Int32)), (0, .ref a0), (1, .int x1), (3, .int x3), (4, .int x4)]) hx hb dX12_laysRuns_138 rfl hl (by decide) rfl (fun ls hl => ?_)
        refine lv_iinc (v := (x3 + (1 : Int32))) (lv' := [(3, .int (x3 + (1 : Int32))), (2, .int (-1 : Int32)), (0, .ref a0), (1, .int x1), (4, .int x4)]) hx hb dX12_laysRuns_139 hl (k := 3) rfl rfl (by decide) rfl (fun ls hl => ?_)
        refine lv_goto (tgt := 28) hx hb dX12_laysRuns_142 (by decide) ?_
        exact hrec28 x1 (-1 : Int32) (x3 + (1 : Int32)) v0_pieces v0_signs (v0_runs + (1 : Int32)) g0_pieceSign g0_pieceFrom (upd g0_runFrom (v0_runs).toNatClampNeg x2) (upd g0_runLong (v0_runs).toNatClampNeg (x3 - x2)) (upd g0_runPiece (v0_runs).toNatClampNeg x1) H locs ls hf hP hD hS (lv_sub hl [2, 3, 1, 0] rfl)
      · replace hf := ip c_13 hf
        refine lv_goto (tgt := 139) hx hb dX12_laysRuns_92 (by decide) ?_
        refine lv_iinc (v := (x3 + (1 : Int32))) (lv' := [(3, .int (x3 + (1 : Int32))), (0, .ref a0), (1, .int x1), (2, .int x2), (4, .int x4)]) hx hb dX12_laysRuns_139 hl (k := 3) rfl rfl (by decide) rfl (fun ls hl => ?_)
        refine lv_goto (tgt := 28) hx hb dX12_laysRuns_142 (by decide) ?_
        exact hrec28 x1 x2 (x3 + (1 : Int32)) v0_pieces v0_signs v0_runs g0_pieceSign g0_pieceFrom g0_runFrom g0_runLong g0_runPiece H locs ls hf hP hD hS (lv_sub hl [1, 2, 3, 0] rfl)
  have k68 : ∀ (rec11 : Int32 → Int32 → Int32 → Int32 → (Nat → Int32) → (Nat → Int32) → (Nat → Int32) → (Nat → Int32) → (Nat → Int32) → Option (Int32 × Int32 × Int32 × (Nat → Int32) × (Nat → Int32) × (Nat → Int32) × (Nat → Int32) × (Nat → Int32))), (∀ (x1 : Int32) (v0_pieces : Int32) (v0_signs : Int32) (v0_runs : Int32) (g0_pieceSign : Nat → Int32) (g0_pieceFrom : Nat → Int32) (g0_runFrom : Nat → Int32) (g0_runLong : Nat → Int32) (g0_runPiece : Nat → Int32) (H : Heap) (locs : List Loc) (ls : Array Slot), rec11 x1 v0_pieces v0_signs v0_runs g0_pieceSign g0_pieceFrom g0_runFrom g0_runLong g0_runPiece = some res → va_P D.1 vwCl [(a0, .inr (9, [.ref a0_all, .ref a0_tape, .ref a0_isImage, .int v0_taped, .int v0_faultKind, .int v0_faultPlace, .int v0_undos, .ref a0_turnWord, .ref a0_turnFrom, .int v0_turns, .ref a0_pieceSign, .ref a0_pieceFrom, .int v0_pieces, .int v0_signs, .ref a0_runFrom, .ref a0_runLong, .ref a0_runPiece, .int v0_runs, .ref a0_alike, .ref a0_stood])), (a0_all, .inl (D.2 1, 5228, .inl g0_all)), (a0_pieceSign, .inl (D.2 1, 40, .inl g0_pieceSign)), (a0_pieceFrom, .inl (D.2 1, 14, .inl g0_pieceFrom)), (a0_runFrom, .inl (D.2 1, 40, .inl g0_runFrom)), (a0_runLong, .inl (D.2 1, 40, .inl g0_runLong)), (a0_runPiece, .inl (D.2 1, 40, .inl g0_runPiece))] H → va_D A [(a0, .inr (9, [.ref a0_all, .ref a0_tape, .ref a0_isImage, .int v0_taped, .int v0_faultKind, .int v0_faultPlace, .int v0_undos, .ref a0_turnWord, .ref a0_turnFrom, .int v0_turns, .ref a0_pieceSign, .ref a0_pieceFrom, .int v0_pieces, .int v0_signs, .ref a0_runFrom, .ref a0_runLong, .ref a0_runPiece, .int v0_runs, .ref a0_alike, .ref a0_stood])), (a0_all, .inl (D.2 1, 5228, .inl g0_all)), (a0_pieceSign, .inl (D.2 1, 40, .inl g0_pieceSign)), (a0_pieceFrom, .inl (D.2 1, 14, .inl g0_pieceFrom)), (a0_runFrom, .inl (D.2 1, 40, .inl g0_runFrom)), (a0_runLong, .inl (D.2 1, 40, .inl g0_runLong)), (a0_runPiece, .inl (D.2 1, 40, .inl g0_runPiece))] → va_S A s.heap H locs → lv_has ls 5 [(0, .ref a0), (1, .int x1)] → W p l e (headSpec wsX12_laysRuns ({ frames := 2, cells := 0, slots := 0, locals := 47 } : Room)).room s m ([.ref a0] : List Value).toArray below meth c H locs 0 0 Q0 (F0 m 11 ls [])) → ∀ (rec28 : Int32 → Int32 → Int32 → Int32 → Int32 → Int32 → (Nat → Int32) → (Nat → Int32) → (Nat → Int32) → (Nat → Int32) → (Nat → Int32) → Option (Int32 × Int32 × Int32 × (Nat → Int32) × (Nat → Int32) × (Nat → Int32) × (Nat → Int32) × (Nat → Int32))), (∀ (x1 : Int32) (x2 : Int32) (x3 : Int32) (v0_pieces : Int32) (v0_signs : Int32) (v0_runs : Int32) (g0_pieceSign : Nat → Int32) (g0_pieceFrom : Nat → Int32) (g0_runFrom : Nat → Int32) (g0_runLong : Nat → Int32) (g0_runPiece : Nat → Int32) (H : Heap) (locs : List Loc) (ls : Array Slot), rec28 x1 x2 x3 v0_pieces v0_signs v0_runs g0_pieceSign g0_pieceFrom g0_runFrom g0_runLong g0_runPiece = some res → va_P D.1 vwCl [(a0, .inr (9, [.ref a0_all, .ref a0_tape, .ref a0_isImage, .int v0_taped, .int v0_faultKind, .int v0_faultPlace, .int v0_undos, .ref a0_turnWord, .ref a0_turnFrom, .int v0_turns, .ref a0_pieceSign, .ref a0_pieceFrom, .int v0_pieces, .int v0_signs, .ref a0_runFrom, .ref a0_runLong, .ref a0_runPiece, .int v0_runs, .ref a0_alike, .ref a0_stood])), (a0_all, .inl (D.2 1, 5228, .inl g0_all)), (a0_pieceSign, .inl (D.2 1, 40, .inl g0_pieceSign)), (a0_pieceFrom, .inl (D.2 1, 14, .inl g0_pieceFrom)), (a0_runFrom, .inl (D.2 1, 40, .inl g0_runFrom)), (a0_runLong, .inl (D.2 1, 40, .inl g0_runLong)), (a0_runPiece, .inl (D.2 1, 40, .inl g0_runPiece))] H → va_D A [(a0, .inr (9, [.ref a0_all, .ref a0_tape, .ref a0_isImage, .int v0_taped, .int v0_faultKind, .int v0_faultPlace, .int v0_undos, .ref a0_turnWord, .ref a0_turnFrom, .int v0_turns, .ref a0_pieceSign, .ref a0_pieceFrom, .int v0_pieces, .int v0_signs, .ref a0_runFrom, .ref a0_runLong, .ref a0_runPiece, .int v0_runs, .ref a0_alike, .ref a0_stood])), (a0_all, .inl (D.2 1, 5228, .inl g0_all)), (a0_pieceSign, .inl (D.2 1, 40, .inl g0_pieceSign)), (a0_pieceFrom, .inl (D.2 1, 14, .inl g0_pieceFrom)), (a0_runFrom, .inl (D.2 1, 40, .inl g0_runFrom)), (a0_runLong, .inl (D.2 1, 40, .inl g0_runLong)), (a0_runPiece, .inl (D.2 1, 40, .inl g0_runPiece))] → va_S A s.heap H locs → lv_has ls 5 [(0, .ref a0), (1, .int x1), (2, .int x2), (3, .int x3)] → W p l e (headSpec wsX12_laysRuns ({ frames := 2, cells := 0, slots := 0, locals := 47 } : Room)).room s m ([.ref a0] : List Value).toArray below meth c H locs 0 0 Q0 (F0 m 28 ls [])) → ∀ (y0 : Int32) (x1 : Int32) (x2 : Int32) (x3 : Int32) (v0_pieces : Int32) (v0_signs : Int32) (v0_runs : Int32) (g0_pieceSign : Nat → Int32) (g0_pieceFrom : Nat → Int32) (g0_runFrom : Nat → Int32) (g0_runLong : Nat → Int32) (g0_runPiece : Nat → Int32) (H : Heap) (locs : List Loc) (ls : Array Slot), fX12_laysRuns_68 N g0_all rec11 rec28 y0 x1 x2 x3 v0_pieces v0_signs v0_runs g0_pieceSign g0_pieceFrom g0_runFrom g0_runLong g0_runPiece = some res → va_P D.1 vwCl [(a0, .inr (9, [.ref a0_all, .ref a0_tape, .ref a0_isImage, .int v0_taped, .int v0_faultKind, .int v0_faultPlace, .int v0_undos, .ref a0_turnWord, .ref a0_turnFrom, .int v0_turns, .ref a0_pieceSign, .ref a0_pieceFrom, .int v0_pieces, .int v0_signs, .ref a0_runFrom, .ref a0_runLong, .ref a0_runPiece, .int v0_runs, .ref a0_alike, .ref a0_stood])), (a0_all, .inl (D.2 1, 5228, .inl g0_all)), (a0_pieceSign, .inl (D.2 1, 40, .inl g0_pieceSign)), (a0_pieceFrom, .inl (D.2 1, 14, .inl g0_pieceFrom)), (a0_runFrom, .inl (D.2 1, 40, .inl g0_runFrom)), (a0_runLong, .inl (D.2 1, 40, .inl g0_runLong)), (a0_runPiece, .inl (D.2 1, 40, .inl g0_runPiece))] H → va_D A [(a0, .inr (9, [.ref a0_all, .ref a0_tape, .ref a0_isImage, .int v0_taped, .int v0_faultKind, .int v0_faultPlace, .int v0_undos, .ref a0_turnWord, .ref a0_turnFrom, .int v0_turns, .ref a0_pieceSign, .ref a0_pieceFrom, .int v0_pieces, .int v0_signs, .ref a0_runFrom, .ref a0_runLong, .ref a0_runPiece, .int v0_runs, .ref a0_alike, .ref a0_stood])), (a0_all, .inl (D.2 1, 5228, .inl g0_all)), (a0_pieceSign, .inl (D.2 1, 40, .inl g0_pieceSign)), (a0_pieceFrom, .inl (D.2 1, 14, .inl g0_pieceFrom)), (a0_runFrom, .inl (D.2 1, 40, .inl g0_runFrom)), (a0_runLong, .inl (D.2 1, 40, .inl g0_runLong)), (a0_runPiece, .inl (D.2 1, 40, .inl g0_runPiece))] → va_S A s.heap H locs → lv_has ls 5 [(0, .ref a0), (1, .int x1), (2, .int x2), (3, .int x3)] → W p l e (headSpec wsX12_laysRuns ({ frames := 2, cells := 0, slots := 0, locals := 47 } : Room)).room s m ([.ref a0] : List Value).toArray below meth c H locs 0 0 Q0 (F0 m 68 ls [.int y0]) := by
    intro rec11 hrec11 rec28 hrec28 y0 x1 x2 x3 v0_pieces v0_signs v0_runs g0_pieceSign g0_pieceFrom g0_runFrom g0_runLong g0_runPiece H locs ls hf hP hD hS hl
    unfold fX12_laysRuns_68 at hf
    refine lv_istore (lv' := [(4, .int y0), (0, .ref a0), (1, .int x1), (2, .int x2), (3, .int x3)]) hx hb dX12_laysRuns_68 hl (by decide) rfl (fun ls hl => ?_)
    refine lv_iload hx hb dX12_laysRuns_70 (lv_at hl 0 rfl) ?_
    refine lv_if_eq (tgt := 82) hx hb dX12_laysRuns_72 (by decide) (fun c_10 => ?_) (fun c_10 => ?_)
    · replace hf := ip c_10 hf
      exact k82 rec11 hrec11 rec28 hrec28 x1 x2 x3 y0 v0_pieces v0_signs v0_runs g0_pieceSign g0_pieceFrom g0_runFrom g0_runLong g0_runPiece H locs ls hf hP hD hS (lv_sub hl [1, 2, 3, 4, 0] rfl)
    · replace hf := im c_10 hf
      refine lv_iload_n hx hb dX12_laysRuns_75 rfl (lv_at hl 3 rfl) ?_
      refine lv_iconst (v := -1) hx hb dX12_laysRuns_76 (by decide) ?_
      refine lv_icmp_ne (tgt := 82) hx hb dX12_laysRuns_77 (by decide) (fun c_11 => ?_) (fun c_11 => ?_)
      · replace hf := im c_11 hf
        exact k82 rec11 hrec11 rec28 hrec28 x1 x2 x3 y0 v0_pieces v0_signs v0_runs g0_pieceSign g0_pieceFrom g0_runFrom g0_runLong g0_runPiece H locs ls hf hP hD hS (lv_sub hl [1, 2, 3, 4, 0] rfl)
      · replace hf := ip c_11 hf
        refine lv_iload_n hx hb dX12_laysRuns_80 rfl (lv_at hl 4 rfl) ?_
        refine lv_istore_n (lv' := [(2, .int x3), (4, .int y0), (0, .ref a0), (1, .int x1), (3, .int x3)]) hx hb dX12_laysRuns_81 rfl hl (by decide) rfl (fun ls hl => ?_)
        exact k82 rec11 hrec11 rec28 hrec28 x1 x3 x3 y0 v0_pieces v0_signs v0_runs g0_pieceSign g0_pieceFrom g0_runFrom g0_runLong g0_runPiece H locs ls hf hP hD hS (lv_sub hl [2, 3, 0, 4, 1] rfl)
  have k67 : ∀ (rec11 : Int32 → Int32 → Int32 → Int32 → (Nat → Int32) → (Nat → Int32) → (Nat → Int32) → (Nat → Int32) → (Nat → Int32) → Option (Int32 × Int32 × Int32 × (Nat → Int32) × (Nat → Int32) × (Nat → Int32) × (Nat → Int32) × (Nat → Int32))), (∀ (x1 : Int32) (v0_pieces : Int32) (v0_signs : Int32) (v0_runs : Int32) (g0_pieceSign : Nat → Int32) (g0_pieceFrom : Nat → Int32) (g0_runFrom : Nat → Int32) (g0_runLong : Nat → Int32) (g0_runPiece : Nat → Int32) (H : Heap) (locs : List Loc) (ls : Array Slot), rec11 x1 v0_pieces v0_signs v0_runs g0_pieceSign g0_pieceFrom g0_runFrom g0_runLong g0_runPiece = some res → va_P D.1 vwCl [(a0, .inr (9, [.ref a0_all, .ref a0_tape, .ref a0_isImage, .int v0_taped, .int v0_faultKind, .int v0_faultPlace, .int v0_undos, .ref a0_turnWord, .ref a0_turnFrom, .int v0_turns, .ref a0_pieceSign, .ref a0_pieceFrom, .int v0_pieces, .int v0_signs, .ref a0_runFrom, .ref a0_runLong, .ref a0_runPiece, .int v0_runs, .ref a0_alike, .ref a0_stood])), (a0_all, .inl (D.2 1, 5228, .inl g0_all)), (a0_pieceSign, .inl (D.2 1, 40, .inl g0_pieceSign)), (a0_pieceFrom, .inl (D.2 1, 14, .inl g0_pieceFrom)), (a0_runFrom, .inl (D.2 1, 40, .inl g0_runFrom)), (a0_runLong, .inl (D.2 1, 40, .inl g0_runLong)), (a0_runPiece, .inl (D.2 1, 40, .inl g0_runPiece))] H → va_D A [(a0, .inr (9, [.ref a0_all, .ref a0_tape, .ref a0_isImage, .int v0_taped, .int v0_faultKind, .int v0_faultPlace, .int v0_undos, .ref a0_turnWord, .ref a0_turnFrom, .int v0_turns, .ref a0_pieceSign, .ref a0_pieceFrom, .int v0_pieces, .int v0_signs, .ref a0_runFrom, .ref a0_runLong, .ref a0_runPiece, .int v0_runs, .ref a0_alike, .ref a0_stood])), (a0_all, .inl (D.2 1, 5228, .inl g0_all)), (a0_pieceSign, .inl (D.2 1, 40, .inl g0_pieceSign)), (a0_pieceFrom, .inl (D.2 1, 14, .inl g0_pieceFrom)), (a0_runFrom, .inl (D.2 1, 40, .inl g0_runFrom)), (a0_runLong, .inl (D.2 1, 40, .inl g0_runLong)), (a0_runPiece, .inl (D.2 1, 40, .inl g0_runPiece))] → va_S A s.heap H locs → lv_has ls 5 [(0, .ref a0), (1, .int x1)] → W p l e (headSpec wsX12_laysRuns ({ frames := 2, cells := 0, slots := 0, locals := 47 } : Room)).room s m ([.ref a0] : List Value).toArray below meth c H locs 0 0 Q0 (F0 m 11 ls [])) → ∀ (rec28 : Int32 → Int32 → Int32 → Int32 → Int32 → Int32 → (Nat → Int32) → (Nat → Int32) → (Nat → Int32) → (Nat → Int32) → (Nat → Int32) → Option (Int32 × Int32 × Int32 × (Nat → Int32) × (Nat → Int32) × (Nat → Int32) × (Nat → Int32) × (Nat → Int32))), (∀ (x1 : Int32) (x2 : Int32) (x3 : Int32) (v0_pieces : Int32) (v0_signs : Int32) (v0_runs : Int32) (g0_pieceSign : Nat → Int32) (g0_pieceFrom : Nat → Int32) (g0_runFrom : Nat → Int32) (g0_runLong : Nat → Int32) (g0_runPiece : Nat → Int32) (H : Heap) (locs : List Loc) (ls : Array Slot), rec28 x1 x2 x3 v0_pieces v0_signs v0_runs g0_pieceSign g0_pieceFrom g0_runFrom g0_runLong g0_runPiece = some res → va_P D.1 vwCl [(a0, .inr (9, [.ref a0_all, .ref a0_tape, .ref a0_isImage, .int v0_taped, .int v0_faultKind, .int v0_faultPlace, .int v0_undos, .ref a0_turnWord, .ref a0_turnFrom, .int v0_turns, .ref a0_pieceSign, .ref a0_pieceFrom, .int v0_pieces, .int v0_signs, .ref a0_runFrom, .ref a0_runLong, .ref a0_runPiece, .int v0_runs, .ref a0_alike, .ref a0_stood])), (a0_all, .inl (D.2 1, 5228, .inl g0_all)), (a0_pieceSign, .inl (D.2 1, 40, .inl g0_pieceSign)), (a0_pieceFrom, .inl (D.2 1, 14, .inl g0_pieceFrom)), (a0_runFrom, .inl (D.2 1, 40, .inl g0_runFrom)), (a0_runLong, .inl (D.2 1, 40, .inl g0_runLong)), (a0_runPiece, .inl (D.2 1, 40, .inl g0_runPiece))] H → va_D A [(a0, .inr (9, [.ref a0_all, .ref a0_tape, .ref a0_isImage, .int v0_taped, .int v0_faultKind, .int v0_faultPlace, .int v0_undos, .ref a0_turnWord, .ref a0_turnFrom, .int v0_turns, .ref a0_pieceSign, .ref a0_pieceFrom, .int v0_pieces, .int v0_signs, .ref a0_runFrom, .ref a0_runLong, .ref a0_runPiece, .int v0_runs, .ref a0_alike, .ref a0_stood])), (a0_all, .inl (D.2 1, 5228, .inl g0_all)), (a0_pieceSign, .inl (D.2 1, 40, .inl g0_pieceSign)), (a0_pieceFrom, .inl (D.2 1, 14, .inl g0_pieceFrom)), (a0_runFrom, .inl (D.2 1, 40, .inl g0_runFrom)), (a0_runLong, .inl (D.2 1, 40, .inl g0_runLong)), (a0_runPiece, .inl (D.2 1, 40, .inl g0_runPiece))] → va_S A s.heap H locs → lv_has ls 5 [(0, .ref a0), (1, .int x1), (2, .int x2), (3, .int x3)] → W p l e (headSpec wsX12_laysRuns ({ frames := 2, cells := 0, slots := 0, locals := 47 } : Room)).room s m ([.ref a0] : List Value).toArray below meth c H locs 0 0 Q0 (F0 m 28 ls [])) → ∀ (x1 : Int32) (x2 : Int32) (x3 : Int32) (v0_pieces : Int32) (v0_signs : Int32) (v0_runs : Int32) (g0_pieceSign : Nat → Int32) (g0_pieceFrom : Nat → Int32) (g0_runFrom : Nat → Int32) (g0_runLong : Nat → Int32) (g0_runPiece : Nat → Int32) (H : Heap) (locs : List Loc) (ls : Array Slot), fX12_laysRuns_67 N g0_all rec11 rec28 x1 x2 x3 v0_pieces v0_signs v0_runs g0_pieceSign g0_pieceFrom g0_runFrom g0_runLong g0_runPiece = some res → va_P D.1 vwCl [(a0, .inr (9, [.ref a0_all, .ref a0_tape, .ref a0_isImage, .int v0_taped, .int v0_faultKind, .int v0_faultPlace, .int v0_undos, .ref a0_turnWord, .ref a0_turnFrom, .int v0_turns, .ref a0_pieceSign, .ref a0_pieceFrom, .int v0_pieces, .int v0_signs, .ref a0_runFrom, .ref a0_runLong, .ref a0_runPiece, .int v0_runs, .ref a0_alike, .ref a0_stood])), (a0_all, .inl (D.2 1, 5228, .inl g0_all)), (a0_pieceSign, .inl (D.2 1, 40, .inl g0_pieceSign)), (a0_pieceFrom, .inl (D.2 1, 14, .inl g0_pieceFrom)), (a0_runFrom, .inl (D.2 1, 40, .inl g0_runFrom)), (a0_runLong, .inl (D.2 1, 40, .inl g0_runLong)), (a0_runPiece, .inl (D.2 1, 40, .inl g0_runPiece))] H → va_D A [(a0, .inr (9, [.ref a0_all, .ref a0_tape, .ref a0_isImage, .int v0_taped, .int v0_faultKind, .int v0_faultPlace, .int v0_undos, .ref a0_turnWord, .ref a0_turnFrom, .int v0_turns, .ref a0_pieceSign, .ref a0_pieceFrom, .int v0_pieces, .int v0_signs, .ref a0_runFrom, .ref a0_runLong, .ref a0_runPiece, .int v0_runs, .ref a0_alike, .ref a0_stood])), (a0_all, .inl (D.2 1, 5228, .inl g0_all)), (a0_pieceSign, .inl (D.2 1, 40, .inl g0_pieceSign)), (a0_pieceFrom, .inl (D.2 1, 14, .inl g0_pieceFrom)), (a0_runFrom, .inl (D.2 1, 40, .inl g0_runFrom)), (a0_runLong, .inl (D.2 1, 40, .inl g0_runLong)), (a0_runPiece, .inl (D.2 1, 40, .inl g0_runPiece))] → va_S A s.heap H locs → lv_has ls 5 [(0, .ref a0), (1, .int x1), (2, .int x2), (3, .int x3)] → W p l e (headSpec wsX12_laysRuns ({ frames := 2, cells := 0, slots := 0, locals := 47 } : Room)).room s m ([.ref a0] : List Value).toArray below meth c H locs 0 0 Q0 (F0 m 67 ls []) := by
    intro rec11 hrec11 rec28 hrec28 x1 x2 x3 v0_pieces v0_signs v0_runs g0_pieceSign g0_pieceFrom g0_runFrom g0_runLong g0_runPiece H locs ls hf hP hD hS hl
    unfold fX12_laysRuns_67 at hf
    refine lv_iconst (v := 0) hx hb dX12_laysRuns_67 (by decide) ?_
    exact k68 rec11 hrec11 rec28 hrec28 (0 : Int32) x1 x2 x3 v0_pieces v0_signs v0_runs g0_pieceSign g0_pieceFrom g0_runFrom g0_runLong g0_runPiece H locs ls hf hP hD hS hl
  have k28 : ∀ (rec11 : Int32 → Int32 → Int32 → Int32 → (Nat → Int32) → (Nat → Int32) → (Nat → Int32) → (Nat → Int32) → (Nat → Int32) → Option (Int32 × Int32 × Int32 × (Nat → Int32) × (Nat → Int32) × (Nat → Int32) × (Nat → Int32) × (Nat → Int32))), (∀ (x1 : Int32) (v0_pieces : Int32) (v0_signs : Int32) (v0_runs : Int32) (g0_pieceSign : Nat → Int32) (g0_pieceFrom : Nat → Int32) (g0_runFrom : Nat → Int32) (g0_runLong : Nat → Int32) (g0_runPiece : Nat → Int32) (H : Heap) (locs : List Loc) (ls : Array Slot), rec11 x1 v0_pieces v0_signs v0_runs g0_pieceSign g0_pieceFrom g0_runFrom g0_runLong g0_runPiece = some res → va_P D.1 vwCl [(a0, .inr (9, [.ref a0_all, .ref a0_tape, .ref a0_isImage, .int v0_taped, .int v0_faultKind, .int v0_faultPlace, .int v0_undos, .ref a0_turnWord, .ref a0_turnFrom, .int v0_turns, .ref a0_pieceSign, .ref a0_pieceFrom, .int v0_pieces, .int v0_signs, .ref a0_runFrom, .ref a0_runLong, .ref a0_runPiece, .int v0_runs, .ref a0_alike, .ref a0_stood])), (a0_all, .inl (D.2 1, 5228, .inl g0_all)), (a0_pieceSign, .inl (D.2 1, 40, .inl g0_pieceSign)), (a0_pieceFrom, .inl (D.2 1, 14, .inl g0_pieceFrom)), (a0_runFrom, .inl (D.2 1, 40, .inl g0_runFrom)), (a0_runLong, .inl (D.2 1, 40, .inl g0_runLong)), (a0_runPiece, .inl (D.2 1, 40, .inl g0_runPiece))] H → va_D A [(a0, .inr (9, [.ref a0_all, .ref a0_tape, .ref a0_isImage, .int v0_taped, .int v0_faultKind, .int v0_faultPlace, .int v0_undos, .ref a0_turnWord, .ref a0_turnFrom, .int v0_turns, .ref a0_pieceSign, .ref a0_pieceFrom, .int v0_pieces, .int v0_signs, .ref a0_runFrom, .ref a0_runLong, .ref a0_runPiece, .int v0_runs, .ref a0_alike, .ref a0_stood])), (a0_all, .inl (D.2 1, 5228, .inl g0_all)), (a0_pieceSign, .inl (D.2 1, 40, .inl g0_pieceSign)), (a0_pieceFrom, .inl (D.2 1, 14, .inl g0_pieceFrom)), (a0_runFrom, .inl (D.2 1, 40, .inl g0_runFrom)), (a0_runLong, .inl (D.2 1, 40, .inl g0_runLong)), (a0_runPiece, .inl (D.2 1, 40, .inl g0_runPiece))] → va_S A s.heap H locs → lv_has ls 5 [(0, .ref a0), (1, .int x1)] → W p l e (headSpec wsX12_laysRuns ({ frames := 2, cells := 0, slots := 0, locals := 47 } : Room)).room s m ([.ref a0] : List Value).toArray below meth c H locs 0 0 Q0 (F0 m 11 ls [])) → ∀ K : Nat, ∀ (x1 : Int32) (x2 : Int32) (x3 : Int32) (v0_pieces : Int32) (v0_signs : Int32) (v0_runs : Int32) (g0_pieceSign : Nat → Int32) (g0_pieceFrom : Nat → Int32) (g0_runFrom : Nat → Int32) (g0_runLong : Nat → Int32) (g0_runPiece : Nat → Int32) (H : Heap) (locs : List Loc) (ls : Array Slot), fX12_laysRuns_28 N g0_all rec11 K x1 x2 x3 v0_pieces v0_signs v0_runs g0_pieceSign g0_pieceFrom g0_runFrom g0_runLong g0_runPiece = some res → va_P D.1 vwCl [(a0, .inr (9, [.ref a0_all, .ref a0_tape, .ref a0_isImage, .int v0_taped, .int v0_faultKind, .int v0_faultPlace, .int v0_undos, .ref a0_turnWord, .ref a0_turnFrom, .int v0_turns, .ref a0_pieceSign, .ref a0_pieceFrom, .int v0_pieces, .int v0_signs, .ref a0_runFrom, .ref a0_runLong, .ref a0_runPiece, .int v0_runs, .ref a0_alike, .ref a0_stood])), (a0_all, .inl (D.2 1, 5228, .inl g0_all)), (a0_pieceSign, .inl (D.2 1, 40, .inl g0_pieceSign)), (a0_pieceFrom, .inl (D.2 1, 14, .inl g0_pieceFrom)), (a0_runFrom, .inl (D.2 1, 40, .inl g0_runFrom)), (a0_runLong, .inl (D.2 1, 40, .inl g0_runLong)), (a0_runPiece, .inl (D.2 1, 40, .inl g0_runPiece))] H → va_D A [(a0, .inr (9, [.ref a0_all, .ref a0_tape, .ref a0_isImage, .int v0_taped, .int v0_faultKind, .int v0_faultPlace, .int v0_undos, .ref a0_turnWord, .ref a0_turnFrom, .int v0_turns, .ref a0_pieceSign, .ref a0_pieceFrom, .int v0_pieces, .int v0_signs, .ref a0_runFrom, .ref a0_runLong, .ref a0_runPiece, .int v0_runs, .ref a0_alike, .ref a0_stood])), (a0_all, .inl (D.2 1, 5228, .inl g0_all)), (a0_pieceSign, .inl (D.2 1, 40, .inl g0_pieceSign)), (a0_pieceFrom, .inl (D.2 1, 14, .inl g0_pieceFrom)), (a0_runFrom, .inl (D.2 1, 40, .inl g0_runFrom)), (a0_runLong, .inl (D.2 1, 40, .inl g0_runLong)), (a0_runPiece, .inl (D.2 1, 40, .inl g0_runPiece))] → va_S A s.heap H locs → lv_has ls 5 [(0, .ref a0), (1, .int x1), (2, .int x2), (3, .int x3)] → W p l e (headSpec wsX12_laysRuns ({ frames := 2, cells := 0, slots := 0, locals := 47 } : Room)).room s m ([.ref a0] : List Value).toArray below meth c H locs 0 0 Q0 (F0 m 28 ls []) := by
    intro rec11 hrec11 K
    induction K with
    | zero =>
      intro x1 x2 x3 v0_pieces v0_signs v0_runs g0_pieceSign g0_pieceFrom g0_runFrom g0_runLong g0_runPiece H locs ls hf
      rw [fX12_laysRuns_28] at hf
      cases hf
    | succ K ih =>
      intro x1 x2 x3 v0_pieces v0_signs v0_runs g0_pieceSign g0_pieceFrom g0_runFrom g0_runLong g0_runPiece H locs ls hf hP hD hS hl
      rw [fX12_laysRuns_28] at hf
      refine lv_iload_n hx hb dX12_laysRuns_28 rfl (lv_at hl 3 rfl) ?_
      refine lv_aload_n hx hb dX12_laysRuns_29 rfl (lv_at hl 0 rfl) ?_
      refine va_get (D := D.1) (ci := 9) (v := .ref a0_pieceFrom) (C := RX12) (T := TX12) (N := 20) hx hb hts hwX12 hown hK.1 hP 0 rfl rfl 11 (by decide) l33 (fun _ h9 => h9) rfl dX12_laysRuns_30 ?_
      refine lv_iload_n hx hb dX12_laysRuns_33 rfl (lv_at hl 1 rfl) ?_
      refine lv_iconst (v := 1) hx hb dX12_laysRuns_34 (by decide) ?_
      refine lv_iadd hx hb dX12_laysRuns_35 ?_
      obtain ⟨h_4, hf⟩ := gd hf
      refine va_iald hx hb hK.1 hP 3 1 rfl rfl h_4 dX12_laysRuns_36 ?_
      refine lv_icmp_gt (tgt := 145) hx hb dX12_laysRuns_37 (by decide) (fun c_5 => ?_) (fun c_5 => ?_)
      · replace hf := ip c_5 hf
        refine lv_iinc (v := (x1 + (1 : Int32))) (lv' := [(1, .int (x1 + (1 : Int32))), (0, .ref a0), (2, .int x2), (3, .int x3)]) hx hb dX12_laysRuns_145 hl (k := 1) rfl rfl (by decide) rfl (fun ls hl => ?_)
        refine lv_goto (tgt := 11) hx hb dX12_laysRuns_148 (by decide) ?_
        exact hrec11 (x1 + (1 : Int32)) v0_pieces v0_signs v0_runs g0_pieceSign g0_pieceFrom g0_runFrom g0_runLong g0_runPiece H locs ls hf hP hD hS (lv_sub hl [1, 0] rfl)
      · replace hf := im c_5 hf
        refine lv_iload_n hx hb dX12_laysRuns_40 rfl (lv_at hl 3 rfl) ?_
        refine lv_aload_n hx hb dX12_laysRuns_41 rfl (lv_at hl 0 rfl) ?_
        refine va_get (D := D.1) (ci := 9) (v := .ref a0_pieceFrom) (C := RX12) (T := TX12) (N := 20) hx hb hts hwX12 hown hK.1 hP 0 rfl rfl 11 (by decide) l33 (fun _ h9 => h9) rfl dX12_laysRuns_42 ?_
        refine lv_iload_n hx hb dX12_laysRuns_45 rfl (lv_at hl 1 rfl) ?_
        refine lv_iconst (v := 1) hx hb dX12_laysRuns_46 (by decide) ?_
        refine lv_iadd hx hb dX12_laysRuns_47 ?_
        obtain ⟨h_6, hf⟩ := gd hf
        refine va_iald hx hb hK.1 hP 3 1 rfl rfl h_6 dX12_laysRuns_48 ?_
        refine lv_icmp_ge (tgt := 67) hx hb dX12_laysRuns_49 (by decide) (fun c_7 => ?_) (fun c_7 => ?_)
        · replace hf := ip c_7 hf
          exact k67 rec11 hrec11 _ ih x1 x2 x3 v0_pieces v0_signs v0_runs g0_pieceSign g0_pieceFrom g0_runFrom g0_runLong g0_runPiece H locs ls hf hP hD hS hl
        · replace hf := im c_7 hf
          refine lv_aload_n hx hb dX12_laysRuns_52 rfl (lv_at hl 0 rfl) ?_
          refine va_get (D := D.1) (ci := 9) (v := .ref a0_pieceSign) (C := RX12) (T := TX12) (N := 20) hx hb hts hwX12 hown hK.1 hP 0 rfl rfl 10 (by decide) l30 (fun _ h9 => h9) rfl dX12_laysRuns_53 ?_
          refine lv_iload_n hx hb dX12_laysRuns_56 rfl (lv_at hl 3 rfl) ?_
          obtain ⟨h_8, hf⟩ := gd hf
          refine va_iald hx hb hK.1 hP 2 1 rfl rfl h_8 dX12_laysRuns_57 ?_
          refine lv_bipush (v := 63) hx hb dX12_laysRuns_58 (by decide) ?_
          refine lv_icmp_eq (tgt := 67) hx hb dX12_laysRuns_60 (by decide) (fun c_9 => ?_) (fun c_9 => ?_)
          · replace hf := ip c_9 hf
            exact k67 rec11 hrec11 _ ih x1 x2 x3 v0_pieces v0_signs v0_runs g0_pieceSign g0_pieceFrom g0_runFrom g0_runLong g0_runPiece H locs ls hf hP hD hS hl
          · replace hf := im c_9 hf
            refine lv_iconst (v := 1) hx hb dX12_laysRuns_63 (by decide) ?_
            refine lv_goto (tgt := 68) hx hb dX12_laysRuns_64 (by decide) ?_
            exact k68 rec11 hrec11 _ ih (1 : Int32) x1 x2 x3 v0_pieces v0_signs v0_runs g0_pieceSign g0_pieceFrom g0_runFrom g0_runLong g0_runPiece H locs ls hf hP hD hS hl
  have k11 : ∀ K : Nat, ∀ (x1 : Int32) (v0_pieces : Int32) (v0_signs : Int32) (v0_runs : Int32) (g0_pieceSign : Nat → Int32) (g0_pieceFrom : Nat → Int32) (g0_runFrom : Nat → Int32) (g0_runLong : Nat → Int32) (g0_runPiece : Nat → Int32) (H : Heap) (locs : List Loc) (ls : Array Slot), fX12_laysRuns_11 N g0_all K x1 v0_pieces v0_signs v0_runs g0_pieceSign g0_pieceFrom g0_runFrom g0_runLong g0_runPiece = some res → va_P D.1 vwCl [(a0, .inr (9, [.ref a0_all, .ref a0_tape, .ref a0_isImage, .int v0_taped, .int v0_faultKind, .int v0_faultPlace, .int v0_undos, .ref a0_turnWord, .ref a0_turnFrom, .int v0_turns, .ref a0_pieceSign, .ref a0_pieceFrom, .int v0_pieces, .int v0_signs, .ref a0_runFrom, .ref a0_runLong, .ref a0_runPiece, .int v0_runs, .ref a0_alike, .ref a0_stood])), (a0_all, .inl (D.2 1, 5228, .inl g0_all)), (a0_pieceSign, .inl (D.2 1, 40, .inl g0_pieceSign)), (a0_pieceFrom, .inl (D.2 1, 14, .inl g0_pieceFrom)), (a0_runFrom, .inl (D.2 1, 40, .inl g0_runFrom)), (a0_runLong, .inl (D.2 1, 40, .inl g0_runLong)), (a0_runPiece, .inl (D.2 1, 40, .inl g0_runPiece))] H → va_D A [(a0, .inr (9, [.ref a0_all, .ref a0_tape, .ref a0_isImage, .int v0_taped, .int v0_faultKind, .int v0_faultPlace, .int v0_undos, .ref a0_turnWord, .ref a0_turnFrom, .int v0_turns, .ref a0_pieceSign, .ref a0_pieceFrom, .int v0_pieces, .int v0_signs, .ref a0_runFrom, .ref a0_runLong, .ref a0_runPiece, .int v0_runs, .ref a0_alike, .ref a0_stood])), (a0_all, .inl (D.2 1, 5228, .inl g0_all)), (a0_pieceSign, .inl (D.2 1, 40, .inl g0_pieceSign)), (a0_pieceFrom, .inl (D.2 1, 14, .inl g0_pieceFrom)), (a0_runFrom, .inl (D.2 1, 40, .inl g0_runFrom)), (a0_runLong, .inl (D.2 1, 40, .inl g0_runLong)), (a0_runPiece, .inl (D.2 1, 40, .inl g0_runPiece))] → va_S A s.heap H locs → lv_has ls 5 [(0, .ref a0), (1, .int x1)] → W p l e (headSpec wsX12_laysRuns ({ frames := 2, cells := 0, slots := 0, locals := 47 } : Room)).room s m ([.ref a0] : List Value).toArray below meth c H locs 0 0 Q0 (F0 m 11 ls []) := by
    intro K
    induction K with
    | zero =>
      intro x1 v0_pieces v0_signs v0_runs g0_pieceSign g0_pieceFrom g0_runFrom g0_runLong g0_runPiece H locs ls hf
      rw [fX12_laysRuns_11] at hf
      cases hf
    | succ K ih =>
      intro x1 v0_pieces v0_signs v0_runs g0_pieceSign g0_pieceFrom g0_runFrom g0_runLong g0_runPiece H locs ls hf hP hD hS hl
      rw [fX12_laysRuns_11] at hf
      refine lv_iload_n hx hb dX12_laysRuns_11 rfl (lv_at hl 1 rfl) ?_
      refine lv_aload_n hx hb dX12_laysRuns_12 rfl (lv_at hl 0 rfl) ?_
      refine va_get (D := D.1) (ci := 9) (v := .int v0_pieces) (C := RX12) (T := TX12) (N := 20) hx hb hts hwX12 hown hK.1 hP 0 rfl rfl 12 (by decide) l107 (fun _ h9 => h9) rfl dX12_laysRuns_13 ?_
      refine lv_icmp_ge (tgt := 151) hx hb dX12_laysRuns_16 (by decide) (fun c_2 => ?_) (fun c_2 => ?_)
      · replace hf := ip c_2 hf
        have he := Option.some.inj hf
        rw [hQ]
        exact W.vret hx hb hr (fun t ht hW => by rw [← he]; exact ⟨⟨(), rfl, trivial, by rw [ht]; exact hP, hD⟩, hS.F ht⟩) hS.2.2 dX12_laysRuns_151
      · replace hf := im c_2 hf
        refine lv_iconst (v := -1) hx hb dX12_laysRuns_19 (by decide) ?_
        refine lv_istore_n (lv' := [(2, .int (-1 : Int32)), (0, .ref a0), (1, .int x1)]) hx hb dX12_laysRuns_20 rfl hl (by decide) rfl (fun ls hl => ?_)
        refine lv_aload_n hx hb dX12_laysRuns_21 rfl (lv_at hl 1 rfl) ?_
        refine va_get (D := D.1) (ci := 9) (v := .ref a0_pieceFrom) (C := RX12) (T := TX12) (N := 20) hx hb hts hwX12 hown hK.1 hP 0 rfl rfl 11 (by decide) l33 (fun _ h9 => h9) rfl dX12_laysRuns_22 ?_
        refine lv_iload_n hx hb dX12_laysRuns_25 rfl (lv_at hl 2 rfl) ?_
        obtain ⟨h_3, hf⟩ := gd hf
        refine va_iald hx hb hK.1 hP 3 1 rfl rfl h_3 dX12_laysRuns_26 ?_
        refine lv_istore_n (lv' := [(3, .int (g0_pieceFrom (x1).toNatClampNeg)), (2, .int (-1 : Int32)), (0, .ref a0), (1, .int x1)]) hx hb dX12_laysRuns_27 rfl hl (by decide) rfl (fun ls hl => ?_)
        exact k28 _ ih N x1 (-1 : Int32) (g0_pieceFrom (x1).toNatClampNeg) v0_pieces v0_signs v0_runs g0_pieceSign g0_pieceFrom g0_runFrom g0_runLong g0_runPiece H locs ls hf hP hD hS (lv_sub hl [2, 3, 1, 0] rfl)
  unfold fX12_laysRuns at hf
  refine lv_aload_n hx hb dX12_laysRuns_0 rfl (lv_at hl 0 rfl) ?_
  obtain ⟨r1, hr1, hf⟩ := bd hf
  refine zVv (As := []) (rest := []) (ci := 9) (q0 := 0) (wn := [(a0, .inr (9, [.ref a0_all, .ref a0_tape, .ref a0_isImage, .int v0_taped, .int v0_faultKind, .int v0_faultPlace, .int v0_undos, .ref a0_turnWord, .ref a0_turnFrom, .int v0_turns, .ref a0_pieceSign, .ref a0_pieceFrom, .int r1.1, .int r1.2.1, .ref a0_runFrom, .ref a0_runLong, .ref a0_runPiece, .int v0_runs, .ref a0_alike, .ref a0_stood])), (a0_all, .inl (D.2 1, 5228, .inl g0_all)), (a0_pieceSign, .inl (D.2 1, 40, .inl r1.2.2.1)), (a0_pieceFrom, .inl (D.2 1, 14, .inl r1.2.2.2)), (a0_runFrom, .inl (D.2 1, 40, .inl g0_runFrom)), (a0_runLong, .inl (D.2 1, 40, .inl g0_runLong)), (a0_runPiece, .inl (D.2 1, 40, .inl g0_runPiece))]) ⟨hx, hb, hml, hown, hts⟩ (mX12_laysPieces l D a0 a0_all a0_tape a0_isImage a0_turnWord a0_turnFrom a0_pieceSign a0_pieceFrom a0_runFrom a0_runLong a0_runPiece a0_alike a0_stood H.size v0_taped v0_faultKind v0_faultPlace v0_undos v0_turns v0_pieces v0_signs v0_runs g0_all g0_pieceSign g0_pieceFrom N r1 hr1) (cwV 0 hts gX12_laysRuns_X12_laysPieces rfl rfl rfl (by decide +kernel) ⟨Nat.le_of_ble_eq_true rfl, Nat.le_of_ble_eq_true rfl⟩) hK hP hD hS hA [0, 1, 2, 3] [4, 5, 6] [3, 4, 5, 6, 0, 1, 2] rfl (by decide) rfl (by decide) (by decide) rfl (by decide) rfl rfl rfl hl.1 rfl (Nat.le_of_ble_eq_true rfl) dX12_laysRuns_1 ⟨Nat.zero_le _, Nat.zero_le _⟩ (fun H locs hP hD hS => ?_)
  refine lv_aload_n hx hb dX12_laysRuns_4 rfl (lv_at hl 0 rfl) ?_
  refine lv_iconst (v := 0) hx hb dX12_laysRuns_5 (by decide) ?_
  refine va_put (D := D.1) (ci := 9) (v := .int (0 : Int32)) (ty := .int) (C := RX12) (T := TX12) (N := 20) hx hb hts hwX12 tyX12 tyX12_ok nmX12 hown hK.1 hP hD hS 0 rfl rfl 17 (by decide) l122 (fun _ h9 => h9) rfl (by decide +kernel) rfl rfl (Nat.le_of_ble_eq_true rfl) dX12_laysRuns_6 (fun H locs hP hD hS => ?_)
  have hP : va_P D.1 vwCl [(a0, .inr (9, [.ref a0_all, .ref a0_tape, .ref a0_isImage, .int v0_taped, .int v0_faultKind, .int v0_faultPlace, .int v0_undos, .ref a0_turnWord, .ref a0_turnFrom, .int v0_turns, .ref a0_pieceSign, .ref a0_pieceFrom, .int r1.1, .int r1.2.1, .ref a0_runFrom, .ref a0_runLong, .ref a0_runPiece, .int (0 : Int32), .ref a0_alike, .ref a0_stood])), (a0_all, .inl (D.2 1, 5228, .inl g0_all)), (a0_pieceSign, .inl (D.2 1, 40, .inl r1.2.2.1)), (a0_pieceFrom, .inl (D.2 1, 14, .inl r1.2.2.2)), (a0_runFrom, .inl (D.2 1, 40, .inl g0_runFrom)), (a0_runLong, .inl (D.2 1, 40, .inl g0_runLong)), (a0_runPiece, .inl (D.2 1, 40, .inl g0_runPiece))] H := hP
  have hD : va_D A [(a0, .inr (9, [.ref a0_all, .ref a0_tape, .ref a0_isImage, .int v0_taped, .int v0_faultKind, .int v0_faultPlace, .int v0_undos, .ref a0_turnWord, .ref a0_turnFrom, .int v0_turns, .ref a0_pieceSign, .ref a0_pieceFrom, .int r1.1, .int r1.2.1, .ref a0_runFrom, .ref a0_runLong, .ref a0_runPiece, .int (0 : Int32), .ref a0_alike, .ref a0_stood])), (a0_all, .inl (D.2 1, 5228, .inl g0_all)), (a0_pieceSign, .inl (D.2 1, 40, .inl r1.2.2.1)), (a0_pieceFrom, .inl (D.2 1, 14, .inl r1.2.2.2)), (a0_runFrom, .inl (D.2 1, 40, .inl g0_runFrom)), (a0_runLong, .inl (D.2 1, 40, .inl g0_runLong)), (a0_runPiece, .inl (D.2 1, 40, .inl g0_runPiece))] := hD
  refine lv_iconst (v := 0) hx hb dX12_laysRuns_9 (by decide) ?_
  refine lv_istore_n (lv' := [(1, .int (0 : Int32)), (0, .ref a0)]) hx hb dX12_laysRuns_10 rfl hl (by decide) rfl (fun ls hl => ?_)
  exact k11 N (0 : Int32) r1.1 r1.2.1 (0 : Int32) r1.2.2.1 r1.2.2.2 g0_runFrom g0_runLong g0_runPiece H locs ls hf hP hD hS (lv_sub hl [1, 0] rfl)
def fX12_begins_3 (N : Nat) (g0_all : Nat → Int32) (g0_turnWord : Nat → Int32) (g0_turnFrom : Nat → Int32) (g0_pieceSign : Nat → Int32) (g0_runFrom : Nat → Int32) (g0_runLong : Nat → Int32) (p1 : Int32) (p2 : Int32) (p3 : Int32) : Nat → Int32 → Option (Int32)
  | 0, _ => none
  | K + 1, x4 =>
    if p3 < 0 ∨ 40 ≤ (p3).toNatClampNeg then none else
    if (g0_runLong (p3).toNatClampNeg) ≤ x4 then
      some ((1 : Int32))
    else
      if p2 < 0 ∨ 320 ≤ (p2).toNatClampNeg then none else
      Option.bind (fX12_wordAt p1 (g0_turnWord (p2).toNatClampNeg)) fun r4 =>
      if p2 < 0 ∨ 320 ≤ (p2).toNatClampNeg then none else
      Option.bind (fX12_signAt g0_all r4 (g0_turnFrom (p2).toNatClampNeg) x4) fun r6 =>
      if p3 < 0 ∨ 40 ≤ (p3).toNatClampNeg then none else
      if ((g0_runFrom (p3).toNatClampNeg) + x4) < 0 ∨ 40 ≤ (((g0_runFrom (p3).toNatClampNeg) + x4)).toNatClampNeg then none else
      if r6 = (g0_pieceSign (((g0_runFrom (p3).toNatClampNeg) + x4)).toNatClampNeg) then
        (fX12_begins_3 N g0_all g0_turnWord g0_turnFrom g0_pieceSign g0_runFrom g0_runLong p1 p2 p3 K) (x4 + (1 : Int32))
      else
        some ((0 : Int32))
def fX12_begins (N : Nat) (g0_all : Nat → Int32) (g0_turnWord : Nat → Int32) (g0_turnFrom : Nat → Int32) (g0_pieceSign : Nat → Int32) (g0_runFrom : Nat → Int32) (g0_runLong : Nat → Int32) (p1 : Int32) (p2 : Int32) (p3 : Int32) : Option (Int32) :=
  fX12_begins_3 N g0_all g0_turnWord g0_turnFrom g0_pieceSign g0_runFrom g0_runLong p1 p2 p3 N (0 : Int32)
set_option maxHeartbeats 4000000 in
set_option maxRecDepth 100000 in
theorem mX12_begins (l : Launch) (D : zG) (a0 : Nat) (a0_all : Nat) (a0_tape : Nat) (a0_isImage : Nat) (a0_turnWord : Nat) (a0_turnFrom : Nat) (a0_pieceSign : Nat) (a0_pieceFrom : Nat) (a0_runFrom : Nat) (a0_runLong : Nat) (a0_runPiece : Nat) (a0_alike : Nat) (a0_stood : Nat) (sz : Nat)  (v0_taped : Int32) (v0_faultKind : Int32) (v0_faultPlace : Int32) (v0_undos : Int32) (v0_turns : Int32) (v0_pieces : Int32) (v0_signs : Int32) (v0_runs : Int32) (g0_all : Nat → Int32) (g0_turnWord : Nat → Int32) (g0_turnFrom : Nat → Int32) (g0_pieceSign : Nat → Int32) (g0_runFrom : Nat → Int32) (g0_runLong : Nat → Int32) (p1 : Int32) (p2 : Int32) (p3 : Int32) (N : Nat) (res : Int32) (hf : fX12_begins N g0_all g0_turnWord g0_turnFrom g0_pieceSign g0_runFrom g0_runLong p1 p2 p3 = some res) : Met l yX12_begins wsX12_begins ({ frames := 1, cells := 0, slots := 0, locals := 24 } : Room) (va_Pc [.ref a0, .int p1, .int p2, .int p3] (zW D sz [(a0, .inr (9, [.ref a0_all, .ref a0_tape, .ref a0_isImage, .int v0_taped, .int v0_faultKind, .int v0_faultPlace, .int v0_undos, .ref a0_turnWord, .ref a0_turnFrom, .int v0_turns, .ref a0_pieceSign, .ref a0_pieceFrom, .int v0_pieces, .int v0_signs, .ref a0_runFrom, .ref a0_runLong, .ref a0_runPiece, .int v0_runs, .ref a0_alike, .ref a0_stood])), (a0_all, .inl (D.2 1, 5228, .inl g0_all)), (a0_turnWord, .inl (D.2 1, 320, .inl g0_turnWord)), (a0_turnFrom, .inl (D.2 1, 320, .inl g0_turnFrom)), (a0_pieceSign, .inl (D.2 1, 40, .inl g0_pieceSign)), (a0_runFrom, .inl (D.2 1, 40, .inl g0_runFrom)), (a0_runLong, .inl (D.2 1, 40, .inl g0_runLong))])) (va_Qi (fun r (_ : Unit) => r = res ∧ (r = 0 ∨ r = 1)) (fun _ => zB D (va_A [(a0, .inr (9, [.ref a0_all, .ref a0_tape, .ref a0_isImage, .int v0_taped, .int v0_faultKind, .int v0_faultPlace, .int v0_undos, .ref a0_turnWord, .ref a0_turnFrom, .int v0_turns, .ref a0_pieceSign, .ref a0_pieceFrom, .int v0_pieces, .int v0_signs, .ref a0_runFrom, .ref a0_runLong, .ref a0_runPiece, .int v0_runs, .ref a0_alike, .ref a0_stood])), (a0_all, .inl (D.2 1, 5228, .inl g0_all)), (a0_turnWord, .inl (D.2 1, 320, .inl g0_turnWord)), (a0_turnFrom, .inl (D.2 1, 320, .inl g0_turnFrom)), (a0_pieceSign, .inl (D.2 1, 40, .inl g0_pieceSign)), (a0_runFrom, .inl (D.2 1, 40, .inl g0_runFrom)), (a0_runLong, .inl (D.2 1, 40, .inl g0_runLong))] sz) [(a0, .inr (9, [.ref a0_all, .ref a0_tape, .ref a0_isImage, .int v0_taped, .int v0_faultKind, .int v0_faultPlace, .int v0_undos, .ref a0_turnWord, .ref a0_turnFrom, .int v0_turns, .ref a0_pieceSign, .ref a0_pieceFrom, .int v0_pieces, .int v0_signs, .ref a0_runFrom, .ref a0_runLong, .ref a0_runPiece, .int v0_runs, .ref a0_alike, .ref a0_stood])), (a0_all, .inl (D.2 1, 5228, .inl g0_all)), (a0_turnWord, .inl (D.2 1, 320, .inl g0_turnWord)), (a0_turnFrom, .inl (D.2 1, 320, .inl g0_turnFrom)), (a0_pieceSign, .inl (D.2 1, 40, .inl g0_pieceSign)), (a0_runFrom, .inl (D.2 1, 40, .inl g0_runFrom)), (a0_runLong, .inl (D.2 1, 40, .inl g0_runLong))]) (va_A [(a0, .inr (9, [.ref a0_all, .ref a0_tape, .ref a0_isImage, .int v0_taped, .int v0_faultKind, .int v0_faultPlace, .int v0_undos, .ref a0_turnWord, .ref a0_turnFrom, .int v0_turns, .ref a0_pieceSign, .ref a0_pieceFrom, .int v0_pieces, .int v0_signs, .ref a0_runFrom, .ref a0_runLong, .ref a0_runPiece, .int v0_runs, .ref a0_alike, .ref a0_stood])), (a0_all, .inl (D.2 1, 5228, .inl g0_all)), (a0_turnWord, .inl (D.2 1, 320, .inl g0_turnWord)), (a0_turnFrom, .inl (D.2 1, 320, .inl g0_turnFrom)), (a0_pieceSign, .inl (D.2 1, 40, .inl g0_pieceSign)), (a0_runFrom, .inl (D.2 1, 40, .inl g0_runFrom)), (a0_runLong, .inl (D.2 1, 40, .inl g0_runLong))] sz)) 0 0 (va_A [(a0, .inr (9, [.ref a0_all, .ref a0_tape, .ref a0_isImage, .int v0_taped, .int v0_faultKind, .int v0_faultPlace, .int v0_undos, .ref a0_turnWord, .ref a0_turnFrom, .int v0_turns, .ref a0_pieceSign, .ref a0_pieceFrom, .int v0_pieces, .int v0_signs, .ref a0_runFrom, .ref a0_runLong, .ref a0_runPiece, .int v0_runs, .ref a0_alike, .ref a0_stood])), (a0_all, .inl (D.2 1, 5228, .inl g0_all)), (a0_turnWord, .inl (D.2 1, 320, .inl g0_turnWord)), (a0_turnFrom, .inl (D.2 1, 320, .inl g0_turnFrom)), (a0_pieceSign, .inl (D.2 1, 40, .inl g0_pieceSign)), (a0_runFrom, .inl (D.2 1, 40, .inl g0_runFrom)), (a0_runLong, .inl (D.2 1, 40, .inl g0_runLong))] sz) := by
  refine Met.ofW (cc := cX12_begins) (maxL := 5) (ret := (some .boolean)) (by decide) rfl ?_
  intro p e s m args below meth c s₁ B hml hv
  obtain ⟨rfl, hsz, hP, hK, hD0⟩ := hv
  have hx := B.exec
  have hb := B.bytes
  have hr := B.returns
  have hts := atoms_spec (ws := wsX12_begins) B.pre
  have hown : s.vm.findClass RX12 = some m.cls := findClass_of_methodNamed B.named
  have hlocks := B.notSynchronized
  subst hsz
  have hD := hD0.self (sz := s.heap.size)
  generalize hAe : va_A [(a0, .inr (9, [.ref a0_all, .ref a0_tape, .ref a0_isImage, .int v0_taped, .int v0_faultKind, .int v0_faultPlace, .int v0_undos, .ref a0_turnWord, .ref a0_turnFrom, .int v0_turns, .ref a0_pieceSign, .ref a0_pieceFrom, .int v0_pieces, .int v0_signs, .ref a0_runFrom, .ref a0_runLong, .ref a0_runPiece, .int v0_runs, .ref a0_alike, .ref a0_stood])), (a0_all, .inl (D.2 1, 5228, .inl g0_all)), (a0_turnWord, .inl (D.2 1, 320, .inl g0_turnWord)), (a0_turnFrom, .inl (D.2 1, 320, .inl g0_turnFrom)), (a0_pieceSign, .inl (D.2 1, 40, .inl g0_pieceSign)), (a0_runFrom, .inl (D.2 1, 40, .inl g0_runFrom)), (a0_runLong, .inl (D.2 1, 40, .inl g0_runLong))] s.heap.size = A at hD ⊢
  have hA : ∀ q : Nat, s.heap.size ≤ q → A q := fun q h => by rw [← hAe]; exact Or.inr h
  have l39 := zat hts 1 (w := .fieldLink RX12 39 "TurnedWordsModel" "runLong" "[I") rfl
  have l24 := zat hts 2 (w := .fieldLink RX12 24 "TurnedWordsModel" "turnWord" "[I") rfl
  have l27 := zat hts 3 (w := .fieldLink RX12 27 "TurnedWordsModel" "turnFrom" "[I") rfl
  have l30 := zat hts 4 (w := .fieldLink RX12 30 "TurnedWordsModel" "pieceSign" "[I") rfl
  have l36 := zat hts 5 (w := .fieldLink RX12 36 "TurnedWordsModel" "runFrom" "[I") rfl
  have hwX12 : ∀ w ∈ u_ws RX12 TX12 20, w ∈ wsX12_begins := fun w h => List.mem_cons_of_mem _ (List.mem_append_right _ h)
  have hl := lv_entry ([.ref a0, .int p1, .int p2, .int p3]) (n := 5) (Nat.le_of_ble_eq_true rfl)
  rw [lg_entry_eq]
  generalize (lg_sl ([.ref a0, .int p1, .int p2, .int p3]) ++ List.replicate (5 - (lg_sl ([.ref a0, .int p1, .int p2, .int p3])).length) Slot.unset).toArray = ls at hl ⊢
  have hl : lv_has ls 5 [(0, .ref a0), (1, .int p1), (2, .int p2), (3, .int p3)] := hl
  refine zStart (A := A) hP (fun Q0 H locs hQ hP hS => ?_)
  have k3 : ∀ K : Nat, ∀ (x4 : Int32) (H : Heap) (locs : List Loc) (ls : Array Slot), fX12_begins_3 N g0_all g0_turnWord g0_turnFrom g0_pieceSign g0_runFrom g0_runLong p1 p2 p3 K x4 = some res → va_P D.1 vwCl [(a0, .inr (9, [.ref a0_all, .ref a0_tape, .ref a0_isImage, .int v0_taped, .int v0_faultKind, .int v0_faultPlace, .int v0_undos, .ref a0_turnWord, .ref a0_turnFrom, .int v0_turns, .ref a0_pieceSign, .ref a0_pieceFrom, .int v0_pieces, .int v0_signs, .ref a0_runFrom, .ref a0_runLong, .ref a0_runPiece, .int v0_runs, .ref a0_alike, .ref a0_stood])), (a0_all, .inl (D.2 1, 5228, .inl g0_all)), (a0_turnWord, .inl (D.2 1, 320, .inl g0_turnWord)), (a0_turnFrom, .inl (D.2 1, 320, .inl g0_turnFrom)), (a0_pieceSign, .inl (D.2 1, 40, .inl g0_pieceSign)), (a0_runFrom, .inl (D.2 1, 40, .inl g0_runFrom)), (a0_runLong, .inl (D.2 1, 40, .inl g0_runLong))] H → va_D A [(a0, .inr (9, [.ref a0_all, .ref a0_tape, .ref a0_isImage, .int v0_taped, .int v0_faultKind, .int v0_faultPlace, .int v0_undos, .ref a0_turnWord, .ref a0_turnFrom, .int v0_turns, .ref a0_pieceSign, .ref a0_pieceFrom, .int v0_pieces, .int v0_signs, .ref a0_runFrom, .ref a0_runLong, .ref a0_runPiece, .int v0_runs, .ref a0_alike, .ref a0_stood])), (a0_all, .inl (D.2 1, 5228, .inl g0_all)), (a0_turnWord, .inl (D.2 1, 320, .inl g0_turnWord)), (a0_turnFrom, .inl (D.2 1, 320, .inl g0_turnFrom)), (a0_pieceSign, .inl (D.2 1, 40, .inl g0_pieceSign)), (a0_runFrom, .inl (D.2 1, 40, .inl g0_runFrom)), (a0_runLong, .inl (D.2 1, 40, .inl g0_runLong))] → va_S A s.heap H locs → lv_has ls 5 [(0, .ref a0), (1, .int p1), (2, .int p2), (3, .int p3), (4, .int x4)] → W p l e (headSpec wsX12_begins ({ frames := 1, cells := 0, slots := 0, locals := 24 } : Room)).room s m ([.ref a0, .int p1, .int p2, .int p3] : List Value).toArray below meth c H locs 0 0 Q0 (F0 m 3 ls []) := by
    intro K
    induction K with
    | zero =>
      intro x4 H locs ls hf
      rw [fX12_begins_3] at hf
      cases hf
    | succ K ih =>
      intro x4 H locs ls hf hP hD hS hl
      rw [fX12_begins_3] at hf
      refine lv_iload hx hb dX12_begins_3 (lv_at hl 4 rfl) ?_
      refine lv_aload_n hx hb dX12_begins_5 rfl (lv_at hl 0 rfl) ?_
      refine va_get (D := D.1) (ci := 9) (v := .ref a0_runLong) (C := RX12) (T := TX12) (N := 20) hx hb hts hwX12 hown hK.1 hP 0 rfl rfl 15 (by decide) l39 (fun _ h9 => h9) rfl dX12_begins_6 ?_
      refine lv_iload_n hx hb dX12_begins_9 rfl (lv_at hl 3 rfl) ?_
      obtain ⟨h_1, hf⟩ := gd hf
      refine va_iald hx hb hK.1 hP 6 1 rfl rfl h_1 dX12_begins_10 ?_
      refine lv_icmp_ge (tgt := 61) hx hb dX12_begins_11 (by decide) (fun c_2 => ?_) (fun c_2 => ?_)
      · replace hf := ip c_2 hf
        refine lv_iconst (v := 1) hx hb dX12_begins_61 (by decide) ?_
        have he := Option.some.inj hf
        rw [hQ]
        exact W.zret (v := (1 : Int32)) hx hb hr (znb (Or.inr rfl)) (fun t ht hW => by rw [← he]; exact ⟨⟨(1 : Int32), (), rfl, ⟨rfl, Or.inr rfl⟩, by rw [ht]; exact hP, hD⟩, hS.F ht⟩) hS.2.2 dX12_begins_62
      · replace hf := im c_2 hf
        refine lv_aload_n hx hb dX12_begins_14 rfl (lv_at hl 0 rfl) ?_
        refine lv_iload_n hx hb dX12_begins_15 rfl (lv_at hl 1 rfl) ?_
        refine lv_aload_n hx hb dX12_begins_16 rfl (lv_at hl 0 rfl) ?_
        refine va_get (D := D.1) (ci := 9) (v := .ref a0_turnWord) (C := RX12) (T := TX12) (N := 20) hx hb hts hwX12 hown hK.1 hP 0 rfl rfl 7 (by decide) l24 (fun _ h9 => h9) rfl dX12_begins_17 ?_
        refine lv_iload_n hx hb dX12_begins_20 rfl (lv_at hl 2 rfl) ?_
        obtain ⟨h_3, hf⟩ := gd hf
        refine va_iald hx hb hK.1 hP 2 1 rfl rfl h_3 dX12_begins_21 ?_
        obtain ⟨r4, hr4, hf⟩ := bd hf
        refine zSi (As := [.int p1, .int (g0_turnWord (p2).toNatClampNeg)]) (rest := [.ref a0]) (wn := [(a0, .inr (9, [.ref a0_all, .ref a0_tape, .ref a0_isImage, .int v0_taped, .int v0_faultKind, .int v0_faultPlace, .int v0_undos, .ref a0_turnWord, .ref a0_turnFrom, .int v0_turns, .ref a0_pieceSign, .ref a0_pieceFrom, .int v0_pieces, .int v0_signs, .ref a0_runFrom, .ref a0_runLong, .ref a0_runPiece, .int v0_runs, .ref a0_alike, .ref a0_stood])), (a0_all, .inl (D.2 1, 5228, .inl g0_all)), (a0_turnWord, .inl (D.2 1, 320, .inl g0_turnWord)), (a0_turnFrom, .inl (D.2 1, 320, .inl g0_turnFrom)), (a0_pieceSign, .inl (D.2 1, 40, .inl g0_pieceSign)), (a0_runFrom, .inl (D.2 1, 40, .inl g0_runFrom)), (a0_runLong, .inl (D.2 1, 40, .inl g0_runLong))]) ⟨hx, hb, hml, hown, hts⟩ (mX12_wordAt l D H.size p1 (g0_turnWord (p2).toNatClampNeg) r4 hr4) (va_cwS 2 hts gX12_begins_X12_wordAt rfl rfl rfl (by decide +kernel) ⟨Nat.le_of_ble_eq_true rfl, Nat.le_of_ble_eq_true rfl⟩) hK hP hD hS hA [] [0, 1, 2, 3, 4, 5, 6] [0, 1, 2, 3, 4, 5, 6] rfl (by decide) rfl (by decide) (by decide) rfl (by decide) rfl hl.1 rfl (Nat.le_of_ble_eq_true rfl) dX12_begins_22 ⟨Nat.zero_le _, Nat.zero_le _⟩ (fun H locs hP hD hS => ?_)
        refine lv_aload_n hx hb dX12_begins_25 rfl (lv_at hl 0 rfl) ?_
        refine va_get (D := D.1) (ci := 9) (v := .ref a0_turnFrom) (C := RX12) (T := TX12) (N := 20) hx hb hts hwX12 hown hK.1 hP 0 rfl rfl 8 (by decide) l27 (fun _ h9 => h9) rfl dX12_begins_26 ?_
        refine lv_iload_n hx hb dX12_begins_29 rfl (lv_at hl 2 rfl) ?_
        obtain ⟨h_5, hf⟩ := gd hf
        refine va_iald hx hb hK.1 hP 3 1 rfl rfl h_5 dX12_begins_30 ?_
        refine lv_iload hx hb dX12_begins_31 (lv_at hl 4 rfl) ?_
        obtain ⟨r6, hr6, hf⟩ := bd hf
        refine zVi (As := [.int r4, .int (g0_turnFrom (p2).toNatClampNeg), .int x4]) (rest := []) (ci := 9) (q0 := 0) (wn := [(a0, .inr (9, [.ref a0_all, .ref a0_tape, .ref a0_isImage, .int v0_taped, .int v0_faultKind, .int v0_faultPlace, .int v0_undos, .ref a0_turnWord, .ref a0_turnFrom, .int v0_turns, .ref a0_pieceSign, .ref a0_pieceFrom, .int v0_pieces, .int v0_signs, .ref a0_runFrom, .ref a0_runLong, .ref a0_runPiece, .int v0_runs, .ref a0_alike, .ref a0_stood])), (a0_all, .inl (D.2 1, 5228, .inl g0_all)), (a0_turnWord, .inl (D.2 1, 320, .inl g0_turnWord)), (a0_turnFrom, .inl (D.2 1, 320, .inl g0_turnFrom)), (a0_pieceSign, .inl (D.2 1, 40, .inl g0_pieceSign)), (a0_runFrom, .inl (D.2 1, 40, .inl g0_runFrom)), (a0_runLong, .inl (D.2 1, 40, .inl g0_runLong))]) ⟨hx, hb, hml, hown, hts⟩ (mX12_signAt l D a0 a0_all a0_tape a0_isImage a0_turnWord a0_turnFrom a0_pieceSign a0_pieceFrom a0_runFrom a0_runLong a0_runPiece a0_alike a0_stood H.size v0_taped v0_faultKind v0_faultPlace v0_undos v0_turns v0_pieces v0_signs v0_runs g0_all r4 (g0_turnFrom (p2).toNatClampNeg) x4 r6 hr6) (cwV 3 hts gX12_begins_X12_signAt rfl rfl rfl (by decide +kernel) ⟨Nat.le_of_ble_eq_true rfl, Nat.le_of_ble_eq_true rfl⟩) hK hP hD hS hA [0, 1] [2, 3, 4, 5, 6] [5, 6, 0, 1, 2, 3, 4] rfl (by decide) rfl (by decide) (by decide) rfl (by decide) rfl rfl rfl hl.1 rfl (Nat.le_of_ble_eq_true rfl) dX12_begins_33 ⟨Nat.zero_le _, Nat.zero_le _⟩ (fun H locs hP hD hS => ?_)
        refine lv_aload_n hx hb dX12_begins_36 rfl (lv_at hl 0 rfl) ?_
        refine va_get (D := D.1) (ci := 9) (v := .ref a0_pieceSign) (C := RX12) (T := TX12) (N := 20) hx hb hts hwX12 hown hK.1 hP 0 rfl rfl 10 (by decide) l30 (fun _ h9 => h9) rfl dX12_begins_37 ?_
        refine lv_aload_n hx hb dX12_begins_40 rfl (lv_at hl 0 rfl) ?_
        refine va_get (D := D.1) (ci := 9) (v := .ref a0_runFrom) (C := RX12) (T := TX12) (N := 20) hx hb hts hwX12 hown hK.1 hP 0 rfl rfl 14 (by decide) l36 (fun _ h9 => h9) rfl dX12_begins_41 ?_
        refine lv_iload_n hx hb dX12_begins_44 rfl (lv_at hl 3 rfl) ?_
        obtain ⟨h_7, hf⟩ := gd hf
        refine va_iald hx hb hK.1 hP 5 1 rfl rfl h_7 dX12_begins_45 ?_
        refine lv_iload hx hb dX12_begins_46 (lv_at hl 4 rfl) ?_
        refine lv_iadd hx hb dX12_begins_48 ?_
        obtain ⟨h_8, hf⟩ := gd hf
        refine va_iald hx hb hK.1 hP 4 1 rfl rfl h_8 dX12_begins_49 ?_
        refine lv_icmp_eq (tgt := 55) hx hb dX12_begins_50 (by decide) (fun c_9 => ?_) (fun c_9 => ?_)
        · replace hf := ip c_9 hf
          refine lv_iinc (v := (x4 + (1 : Int32))) (lv' := [(4, .int (x4 + (1 : Int32))), (0, .ref a0), (1, .int p1), (2, .int p2), (3, .int p3)]) hx hb dX12_begins_55 hl (k := 4) rfl rfl (by decide) rfl (fun ls hl => ?_)
          refine lv_goto (tgt := 3) hx hb dX12_begins_58 (by decide) ?_
          exact ih (x4 + (1 : Int32)) H locs ls hf hP hD hS (lv_sub hl [1, 2, 3, 4, 0] rfl)
        · replace hf := im c_9 hf
          refine lv_iconst (v := 0) hx hb dX12_begins_53 (by decide) ?_
          have he := Option.some.inj hf
          rw [hQ]
          exact W.zret (v := (0 : Int32)) hx hb hr (znb (Or.inl rfl)) (fun t ht hW => by rw [← he]; exact ⟨⟨(0 : Int32), (), rfl, ⟨rfl, Or.inl rfl⟩, by rw [ht]; exact hP, hD⟩, hS.F ht⟩) hS.2.2 dX12_begins_54
  unfold fX12_begins at hf
  refine lv_iconst (v := 0) hx hb dX12_begins_0 (by decide) ?_
  refine lv_istore (lv' := [(4, .int (0 : Int32)), (0, .ref a0), (1, .int p1), (2, .int p2), (3, .int p3)]) hx hb dX12_begins_1 hl (by decide) rfl (fun ls hl => ?_)
  exact k3 N (0 : Int32) H locs ls hf hP hD hS (lv_sub hl [1, 2, 3, 4, 0] rfl)
def fX12_rangeOf_4 (N : Nat) (v0_turns : Int32) (g0_all : Nat → Int32) (g0_turnWord : Nat → Int32) (g0_turnFrom : Nat → Int32) (g0_pieceSign : Nat → Int32) (g0_runFrom : Nat → Int32) (g0_runLong : Nat → Int32) (p1 : Int32) : Nat → Int32 → Int32 → Option (Int32)
  | 0, _, _ => none
  | K + 1, x2, x3 =>
    if v0_turns ≤ x3 then
      some (x2)
    else
      Option.bind (fX12_begins N g0_all g0_turnWord g0_turnFrom g0_pieceSign g0_runFrom g0_runLong (0 : Int32) x3 p1) fun r2 =>
      if r2 = (0 : Int32) then
        (fX12_rangeOf_4 N v0_turns g0_all g0_turnWord g0_turnFrom g0_pieceSign g0_runFrom g0_runLong p1 K) (x2 + (0 : Int32)) (x3 + (1 : Int32))
      else
        (fX12_rangeOf_4 N v0_turns g0_all g0_turnWord g0_turnFrom g0_pieceSign g0_runFrom g0_runLong p1 K) (x2 + (1 : Int32)) (x3 + (1 : Int32))
def fX12_rangeOf (N : Nat) (v0_turns : Int32) (g0_all : Nat → Int32) (g0_turnWord : Nat → Int32) (g0_turnFrom : Nat → Int32) (g0_pieceSign : Nat → Int32) (g0_runFrom : Nat → Int32) (g0_runLong : Nat → Int32) (p1 : Int32) : Option (Int32) :=
  fX12_rangeOf_4 N v0_turns g0_all g0_turnWord g0_turnFrom g0_pieceSign g0_runFrom g0_runLong p1 N (0 : Int32) (0 : Int32)
set_option maxHeartbeats 4000000 in
set_option maxRecDepth 100000 in
theorem mX12_rangeOf (l : Launch) (D : zG) (a0 : Nat) (a0_all : Nat) (a0_tape : Nat) (a0_isImage : Nat) (a0_turnWord : Nat) (a0_turnFrom : Nat) (a0_pieceSign : Nat) (a0_pieceFrom : Nat) (a0_runFrom : Nat) (a0_runLong : Nat) (a0_runPiece : Nat) (a0_alike : Nat) (a0_stood : Nat) (sz : Nat)  (v0_taped : Int32) (v0_faultKind : Int32) (v0_faultPlace : Int32) (v0_undos : Int32) (v0_turns : Int32) (v0_pieces : Int32) (v0_signs : Int32) (v0_runs : Int32) (g0_all : Nat → Int32) (g0_turnWord : Nat → Int32) (g0_turnFrom : Nat → Int32) (g0_pieceSign : Nat → Int32) (g0_runFrom : Nat → Int32) (g0_runLong : Nat → Int32) (p1 : Int32) (N : Nat) (res : Int32) (hf : fX12_rangeOf N v0_turns g0_all g0_turnWord g0_turnFrom g0_pieceSign g0_runFrom g0_runLong p1 = some res) : Met l yX12_rangeOf wsX12_rangeOf ({ frames := 2, cells := 0, slots := 0, locals := 48 } : Room) (va_Pc [.ref a0, .int p1] (zW D sz [(a0, .inr (9, [.ref a0_all, .ref a0_tape, .ref a0_isImage, .int v0_taped, .int v0_faultKind, .int v0_faultPlace, .int v0_undos, .ref a0_turnWord, .ref a0_turnFrom, .int v0_turns, .ref a0_pieceSign, .ref a0_pieceFrom, .int v0_pieces, .int v0_signs, .ref a0_runFrom, .ref a0_runLong, .ref a0_runPiece, .int v0_runs, .ref a0_alike, .ref a0_stood])), (a0_all, .inl (D.2 1, 5228, .inl g0_all)), (a0_turnWord, .inl (D.2 1, 320, .inl g0_turnWord)), (a0_turnFrom, .inl (D.2 1, 320, .inl g0_turnFrom)), (a0_pieceSign, .inl (D.2 1, 40, .inl g0_pieceSign)), (a0_runFrom, .inl (D.2 1, 40, .inl g0_runFrom)), (a0_runLong, .inl (D.2 1, 40, .inl g0_runLong))])) (va_Qi (fun r (_ : Unit) => r = res) (fun _ => zB D (va_A [(a0, .inr (9, [.ref a0_all, .ref a0_tape, .ref a0_isImage, .int v0_taped, .int v0_faultKind, .int v0_faultPlace, .int v0_undos, .ref a0_turnWord, .ref a0_turnFrom, .int v0_turns, .ref a0_pieceSign, .ref a0_pieceFrom, .int v0_pieces, .int v0_signs, .ref a0_runFrom, .ref a0_runLong, .ref a0_runPiece, .int v0_runs, .ref a0_alike, .ref a0_stood])), (a0_all, .inl (D.2 1, 5228, .inl g0_all)), (a0_turnWord, .inl (D.2 1, 320, .inl g0_turnWord)), (a0_turnFrom, .inl (D.2 1, 320, .inl g0_turnFrom)), (a0_pieceSign, .inl (D.2 1, 40, .inl g0_pieceSign)), (a0_runFrom, .inl (D.2 1, 40, .inl g0_runFrom)), (a0_runLong, .inl (D.2 1, 40, .inl g0_runLong))] sz) [(a0, .inr (9, [.ref a0_all, .ref a0_tape, .ref a0_isImage, .int v0_taped, .int v0_faultKind, .int v0_faultPlace, .int v0_undos, .ref a0_turnWord, .ref a0_turnFrom, .int v0_turns, .ref a0_pieceSign, .ref a0_pieceFrom, .int v0_pieces, .int v0_signs, .ref a0_runFrom, .ref a0_runLong, .ref a0_runPiece, .int v0_runs, .ref a0_alike, .ref a0_stood])), (a0_all, .inl (D.2 1, 5228, .inl g0_all)), (a0_turnWord, .inl (D.2 1, 320, .inl g0_turnWord)), (a0_turnFrom, .inl (D.2 1, 320, .inl g0_turnFrom)), (a0_pieceSign, .inl (D.2 1, 40, .inl g0_pieceSign)), (a0_runFrom, .inl (D.2 1, 40, .inl g0_runFrom)), (a0_runLong, .inl (D.2 1, 40, .inl g0_runLong))]) (va_A [(a0, .inr (9, [.ref a0_all, .ref a0_tape, .ref a0_isImage, .int v0_taped, .int v0_faultKind, .int v0_faultPlace, .int v0_undos, .ref a0_turnWord, .ref a0_turnFrom, .int v0_turns, .ref a0_pieceSign, .ref a0_pieceFrom, .int v0_pieces, .int v0_signs, .ref a0_runFrom, .ref a0_runLong, .ref a0_runPiece, .int v0_runs, .ref a0_alike, .ref a0_stood])), (a0_all, .inl (D.2 1, 5228, .inl g0_all)), (a0_turnWord, .inl (D.2 1, 320, .inl g0_turnWord)), (a0_turnFrom, .inl (D.2 1, 320, .inl g0_turnFrom)), (a0_pieceSign, .inl (D.2 1, 40, .inl g0_pieceSign)), (a0_runFrom, .inl (D.2 1, 40, .inl g0_runFrom)), (a0_runLong, .inl (D.2 1, 40, .inl g0_runLong))] sz)) 0 0 (va_A [(a0, .inr (9, [.ref a0_all, .ref a0_tape, .ref a0_isImage, .int v0_taped, .int v0_faultKind, .int v0_faultPlace, .int v0_undos, .ref a0_turnWord, .ref a0_turnFrom, .int v0_turns, .ref a0_pieceSign, .ref a0_pieceFrom, .int v0_pieces, .int v0_signs, .ref a0_runFrom, .ref a0_runLong, .ref a0_runPiece, .int v0_runs, .ref a0_alike, .ref a0_stood])), (a0_all, .inl (D.2 1, 5228, .inl g0_all)), (a0_turnWord, .inl (D.2 1, 320, .inl g0_turnWord)), (a0_turnFrom, .inl (D.2 1, 320, .inl g0_turnFrom)), (a0_pieceSign, .inl (D.2 1, 40, .inl g0_pieceSign)), (a0_runFrom, .inl (D.2 1, 40, .inl g0_runFrom)), (a0_runLong, .inl (D.2 1, 40, .inl g0_runLong))] sz) := by
  refine Met.ofW (cc := cX12_rangeOf) (maxL := 4) (ret := (some .int)) (by decide) rfl ?_
  intro p e s m args below meth c s₁ B hml hv
  obtain ⟨rfl, hsz, hP, hK, hD0⟩ := hv
  have hx := B.exec
  have hb := B.bytes
  have hr := B.returns
  have hts := atoms_spec (ws := wsX12_rangeOf) B.pre
  have hown : s.vm.findClass RX12 = some m.cls := findClass_of_methodNamed B.named
  have hlocks := B.notSynchronized
  subst hsz
  have hD := hD0.self (sz := s.heap.size)
  generalize hAe : va_A [(a0, .inr (9, [.ref a0_all, .ref a0_tape, .ref a0_isImage, .int v0_taped, .int v0_faultKind, .int v0_faultPlace, .int v0_undos, .ref a0_turnWord, .ref a0_turnFrom, .int v0_turns, .ref a0_pieceSign, .ref a0_pieceFrom, .int v0_pieces, .int v0_signs, .ref a0_runFrom, .ref a0_runLong, .ref a0_runPiece, .int v0_runs, .ref a0_alike, .ref a0_stood])), (a0_all, .inl (D.2 1, 5228, .inl g0_all)), (a0_turnWord, .inl (D.2 1, 320, .inl g0_turnWord)), (a0_turnFrom, .inl (D.2 1, 320, .inl g0_turnFrom)), (a0_pieceSign, .inl (D.2 1, 40, .inl g0_pieceSign)), (a0_runFrom, .inl (D.2 1, 40, .inl g0_runFrom)), (a0_runLong, .inl (D.2 1, 40, .inl g0_runLong))] s.heap.size = A at hD ⊢
  have hA : ∀ q : Nat, s.heap.size ≤ q → A q := fun q h => by rw [← hAe]; exact Or.inr h
  have l87 := zat hts 1 (w := .fieldLink RX12 87 "TurnedWordsModel" "turns" "I") rfl
  have hwX12 : ∀ w ∈ u_ws RX12 TX12 20, w ∈ wsX12_rangeOf := fun w h => List.mem_cons_of_mem _ (List.mem_append_right _ h)
  have hl := lv_entry ([.ref a0, .int p1]) (n := 4) (Nat.le_of_ble_eq_true rfl)
  rw [lg_entry_eq]
  generalize (lg_sl ([.ref a0, .int p1]) ++ List.replicate (4 - (lg_sl ([.ref a0, .int p1])).length) Slot.unset).toArray = ls at hl ⊢
  have hl : lv_has ls 4 [(0, .ref a0), (1, .int p1)] := hl
  refine zStart (A := A) hP (fun Q0 H locs hQ hP hS => ?_)
  have k4 : ∀ K : Nat, ∀ (x2 : Int32) (x3 : Int32) (H : Heap) (locs : List Loc) (ls : Array Slot), fX12_rangeOf_4 N v0_turns g0_all g0_turnWord g0_turnFrom g0_pieceSign g0_runFrom g0_runLong p1 K x2 x3 = some res → va_P D.1 vwCl [(a0, .inr (9, [.ref a0_all, .ref a0_tape, .ref a0_isImage, .int v0_taped, .int v0_faultKind, .int v0_faultPlace, .int v0_undos, .ref a0_turnWord, .ref a0_turnFrom, .int v0_turns, .ref a0_pieceSign, .ref a0_pieceFrom, .int v0_pieces, .int v0_signs, .ref a0_runFrom, .ref a0_runLong, .ref a0_runPiece, .int v0_runs, .ref a0_alike, .ref a0_stood])), (a0_all, .inl (D.2 1, 5228, .inl g0_all)), (a0_turnWord, .inl (D.2 1, 320, .inl g0_turnWord)), (a0_turnFrom, .inl (D.2 1, 320, .inl g0_turnFrom)), (a0_pieceSign, .inl (D.2 1, 40, .inl g0_pieceSign)), (a0_runFrom, .inl (D.2 1, 40, .inl g0_runFrom)), (a0_runLong, .inl (D.2 1, 40, .inl g0_runLong))] H → va_D A [(a0, .inr (9, [.ref a0_all, .ref a0_tape, .ref a0_isImage, .int v0_taped, .int v0_faultKind, .int v0_faultPlace, .int v0_undos, .ref a0_turnWord, .ref a0_turnFrom, .int v0_turns, .ref a0_pieceSign, .ref a0_pieceFrom, .int v0_pieces, .int v0_signs, .ref a0_runFrom, .ref a0_runLong, .ref a0_runPiece, .int v0_runs, .ref a0_alike, .ref a0_stood])), (a0_all, .inl (D.2 1, 5228, .inl g0_all)), (a0_turnWord, .inl (D.2 1, 320, .inl g0_turnWord)), (a0_turnFrom, .inl (D.2 1, 320, .inl g0_turnFrom)), (a0_pieceSign, .inl (D.2 1, 40, .inl g0_pieceSign)), (a0_runFrom, .inl (D.2 1, 40, .inl g0_runFrom)), (a0_runLong, .inl (D.2 1, 40, .inl g0_runLong))] → va_S A s.heap H locs → lv_has ls 4 [(0, .ref a0), (1, .int p1), (2, .int x2), (3, .int x3)] → W p l e (headSpec wsX12_rangeOf ({ frames := 2, cells := 0, slots := 0, locals := 48 } : Room)).room s m ([.ref a0, .int p1] : List Value).toArray below meth c H locs 0 0 Q0 (F0 m 4 ls []) := by
    intro K
    induction K with
    | zero =>
      intro x2 x3 H locs ls hf
      rw [fX12_rangeOf_4] at hf
      cases hf
    | succ K ih =>
      intro x2 x3 H locs ls hf hP hD hS hl
      rw [fX12_rangeOf_4] at hf
      refine lv_iload_n hx hb dX12_rangeOf_4 rfl (lv_at hl 3 rfl) ?_
      refine lv_aload_n hx hb dX12_rangeOf_5 rfl (lv_at hl 0 rfl) ?_
      refine va_get (D := D.1) (ci := 9) (v := .int v0_turns) (C := RX12) (T := TX12) (N := 20) hx hb hts hwX12 hown hK.1 hP 0 rfl rfl 9 (by decide) l87 (fun _ h9 => h9) rfl dX12_rangeOf_6 ?_
      refine lv_icmp_ge (tgt := 36) hx hb dX12_rangeOf_9 (by decide) (fun c_1 => ?_) (fun c_1 => ?_)
      · replace hf := ip c_1 hf
        refine lv_iload_n hx hb dX12_rangeOf_36 rfl (lv_at hl 2 rfl) ?_
        have he := Option.some.inj hf
        rw [hQ]
        exact W.iret (v := x2) hx hb hr (fun t ht hW => by rw [← he]; exact ⟨⟨x2, (), rfl, rfl, by rw [ht]; exact hP, hD⟩, hS.F ht⟩) hS.2.2 dX12_rangeOf_37
      · replace hf := im c_1 hf
        refine lv_iload_n hx hb dX12_rangeOf_12 rfl (lv_at hl 2 rfl) ?_
        refine lv_aload_n hx hb dX12_rangeOf_13 rfl (lv_at hl 0 rfl) ?_
        refine lv_iconst (v := 0) hx hb dX12_rangeOf_14 (by decide) ?_
        refine lv_iload_n hx hb dX12_rangeOf_15 rfl (lv_at hl 3 rfl) ?_
        refine lv_iload_n hx hb dX12_rangeOf_16 rfl (lv_at hl 1 rfl) ?_
        obtain ⟨r2, hr2, hf⟩ := bd hf
        refine zVz (As := [.int (0 : Int32), .int x3, .int p1]) (rest := [.int x2]) (ci := 9) (q0 := 0) (wn := [(a0, .inr (9, [.ref a0_all, .ref a0_tape, .ref a0_isImage, .int v0_taped, .int v0_faultKind, .int v0_faultPlace, .int v0_undos, .ref a0_turnWord, .ref a0_turnFrom, .int v0_turns, .ref a0_pieceSign, .ref a0_pieceFrom, .int v0_pieces, .int v0_signs, .ref a0_runFrom, .ref a0_runLong, .ref a0_runPiece, .int v0_runs, .ref a0_alike, .ref a0_stood])), (a0_all, .inl (D.2 1, 5228, .inl g0_all)), (a0_turnWord, .inl (D.2 1, 320, .inl g0_turnWord)), (a0_turnFrom, .inl (D.2 1, 320, .inl g0_turnFrom)), (a0_pieceSign, .inl (D.2 1, 40, .inl g0_pieceSign)), (a0_runFrom, .inl (D.2 1, 40, .inl g0_runFrom)), (a0_runLong, .inl (D.2 1, 40, .inl g0_runLong))]) ⟨hx, hb, hml, hown, hts⟩ (mX12_begins l D a0 a0_all a0_tape a0_isImage a0_turnWord a0_turnFrom a0_pieceSign a0_pieceFrom a0_runFrom a0_runLong a0_runPiece a0_alike a0_stood H.size v0_taped v0_faultKind v0_faultPlace v0_undos v0_turns v0_pieces v0_signs v0_runs g0_all g0_turnWord g0_turnFrom g0_pieceSign g0_runFrom g0_runLong (0 : Int32) x3 p1 N r2 hr2) (cwV 3 hts gX12_rangeOf_X12_begins rfl rfl rfl (by decide +kernel) ⟨Nat.le_of_ble_eq_true rfl, Nat.le_of_ble_eq_true rfl⟩) hK hP hD hS hA [0, 1, 2, 3, 4, 5, 6] [] [0, 1, 2, 3, 4, 5, 6] rfl (by decide) rfl (by decide) (by decide) rfl (by decide) rfl rfl rfl hl.1 rfl (Nat.le_of_ble_eq_true rfl) dX12_rangeOf_17 ⟨Nat.zero_le _, Nat.zero_le _⟩ (fun H locs hb_3 hP hD hS => ?_)
        refine lv_if_eq (tgt := 27) hx hb dX12_rangeOf_20 (by decide) (fun c_4 => ?_) (fun c_4 => ?_)
        · replace hf := ip c_4 hf
          refine lv_iconst (v := 0) hx hb dX12_rangeOf_27 (by decide) ?_
          refine lv_iadd hx hb dX12_rangeOf_28 ?_
          refine lv_istore_n (lv' := [(2, .int (x2 + (0 : Int32))), (0, .ref a0), (1, .int p1), (3, .int x3)]) hx hb dX12_rangeOf_29 rfl hl (by decide) rfl (fun ls hl => ?_)
          refine lv_iinc (v := (x3 + (1 : Int32))) (lv' := [(3, .int (x3 + (1 : Int32))), (2, .int (x2 + (0 : Int32))), (0, .ref a0), (1, .int p1)]) hx hb dX12_rangeOf_30 hl (k := 3) rfl rfl (by decide) rfl (fun ls hl => ?_)
          refine lv_goto (tgt := 4) hx hb dX12_rangeOf_33 (by decide) ?_
          exact ih (x2 + (0 : Int32)) (x3 + (1 : Int32)) H locs ls hf hP hD hS (lv_sub hl [2, 3, 1, 0] rfl)
        · replace hf := im c_4 hf
          refine lv_iconst (v := 1) hx hb dX12_rangeOf_23 (by decide) ?_
          refine lv_goto (tgt := 28) hx hb dX12_rangeOf_24 (by decide) ?_
          refine lv_iadd hx hb dX12_rangeOf_28 ?_
          refine lv_istore_n (lv' := [(2, .int (x2 + (1 : Int32))), (0, .ref a0), (1, .int p1), (3, .int x3)]) hx hb dX12_rangeOf_29 rfl hl (by decide) rfl (fun ls hl => ?_)
          refine lv_iinc (v := (x3 + (1 : Int32))) (lv' := [(3, .int (x3 + (1 : Int32))), (2, .int (x2 + (1 : Int32))), (0, .ref a0), (1, .int p1)]) hx hb dX12_rangeOf_30 hl (k := 3) rfl rfl (by decide) rfl (fun ls hl => ?_)
          refine lv_goto (tgt := 4) hx hb dX12_rangeOf_33 (by decide) ?_
          exact ih (x2 + (1 : Int32)) (x3 + (1 : Int32)) H locs ls hf hP hD hS (lv_sub hl [2, 3, 1, 0] rfl)
  unfold fX12_rangeOf at hf
  refine lv_iconst (v := 0) hx hb dX12_rangeOf_0 (by decide) ?_
  refine lv_istore_n (lv' := [(2, .int (0 : Int32)), (0, .ref a0), (1, .int p1)]) hx hb dX12_rangeOf_1 rfl hl (by decide) rfl (fun ls hl => ?_)
  refine lv_iconst (v := 0) hx hb dX12_rangeOf_2 (by decide) ?_
  refine lv_istore_n (lv' := [(3, .int (0 : Int32)), (2, .int (0 : Int32)), (0, .ref a0), (1, .int p1)]) hx hb dX12_rangeOf_3 rfl hl (by decide) rfl (fun ls hl => ?_)
  exact k4 N (0 : Int32) (0 : Int32) H locs ls hf hP hD hS (lv_sub hl [2, 3, 1, 0] rfl)
def fX12_isOf_2 (N : Nat) (v0_turns : Int32) (g0_all : Nat → Int32) (g0_turnWord : Nat → Int32) (g0_turnFrom : Nat → Int32) (g0_pieceSign : Nat → Int32) (g0_runFrom : Nat → Int32) (g0_runLong : Nat → Int32) (p1 : Int32) (p2 : Int32) : Nat → Int32 → Option (Int32)
  | 0, _ => none
  | K + 1, x3 =>
    if v0_turns ≤ x3 then
      some ((0 : Int32))
    else
      if x3 < 0 ∨ 320 ≤ (x3).toNatClampNeg then none else
      if (g0_turnWord (x3).toNatClampNeg) = p1 then
        Option.bind (fX12_begins N g0_all g0_turnWord g0_turnFrom g0_pieceSign g0_runFrom g0_runLong (0 : Int32) x3 p2) fun r4 =>
        if r4 = (0 : Int32) then
          (fX12_isOf_2 N v0_turns g0_all g0_turnWord g0_turnFrom g0_pieceSign g0_runFrom g0_runLong p1 p2 K) (x3 + (1 : Int32))
        else
          some ((1 : Int32))
      else
        (fX12_isOf_2 N v0_turns g0_all g0_turnWord g0_turnFrom g0_pieceSign g0_runFrom g0_runLong p1 p2 K) (x3 + (1 : Int32))
def fX12_isOf (N : Nat) (v0_turns : Int32) (g0_all : Nat → Int32) (g0_turnWord : Nat → Int32) (g0_turnFrom : Nat → Int32) (g0_pieceSign : Nat → Int32) (g0_runFrom : Nat → Int32) (g0_runLong : Nat → Int32) (p1 : Int32) (p2 : Int32) : Option (Int32) :=
  fX12_isOf_2 N v0_turns g0_all g0_turnWord g0_turnFrom g0_pieceSign g0_runFrom g0_runLong p1 p2 N (0 : Int32)
set_option maxHeartbeats 4000000 in
set_option maxRecDepth 100000 in
theorem mX12_isOf (l : Launch) (D : zG) (a0 : Nat) (a0_all : Nat) (a0_tape : Nat) (a0_isImage : Nat) (a0_turnWord : Nat) (a0_turnFrom : Nat) (a0_pieceSign : Nat) (a0_pieceFrom : Nat) (a0_runFrom : Nat) (a0_runLong : Nat) (a0_runPiece : Nat) (a0_alike : Nat) (a0_stood : Nat) (sz : Nat)  (v0_taped : Int32) (v0_faultKind : Int32) (v0_faultPlace : Int32) (v0_undos : Int32) (v0_turns : Int32) (v0_pieces : Int32) (v0_signs : Int32) (v0_runs : Int32) (g0_all : Nat → Int32) (g0_turnWord : Nat → Int32) (g0_turnFrom : Nat → Int32) (g0_pieceSign : Nat → Int32) (g0_runFrom : Nat → Int32) (g0_runLong : Nat → Int32) (p1 : Int32) (p2 : Int32) (N : Nat) (res : Int32) (hf : fX12_isOf N v0_turns g0_all g0_turnWord g0_turnFrom g0_pieceSign g0_runFrom g0_runLong p1 p2 = some res) : Met l yX12_isOf wsX12_isOf ({ frames := 2, cells := 0, slots := 0, locals := 48 } : Room) (va_Pc [.ref a0, .int p1, .int p2] (zW D sz [(a0, .inr (9, [.ref a0_all, .ref a0_tape, .ref a0_isImage, .int v0_taped, .int v0_faultKind, .int v0_faultPlace, .int v0_undos, .ref a0_turnWord, .ref a0_turnFrom, .int v0_turns, .ref a0_pieceSign, .ref a0_pieceFrom, .int v0_pieces, .int v0_signs, .ref a0_runFrom, .ref a0_runLong, .ref a0_runPiece, .int v0_runs, .ref a0_alike, .ref a0_stood])), (a0_all, .inl (D.2 1, 5228, .inl g0_all)), (a0_turnWord, .inl (D.2 1, 320, .inl g0_turnWord)), (a0_turnFrom, .inl (D.2 1, 320, .inl g0_turnFrom)), (a0_pieceSign, .inl (D.2 1, 40, .inl g0_pieceSign)), (a0_runFrom, .inl (D.2 1, 40, .inl g0_runFrom)), (a0_runLong, .inl (D.2 1, 40, .inl g0_runLong))])) (va_Qi (fun r (_ : Unit) => r = res ∧ (r = 0 ∨ r = 1)) (fun _ => zB D (va_A [(a0, .inr (9, [.ref a0_all, .ref a0_tape, .ref a0_isImage, .int v0_taped, .int v0_faultKind, .int v0_faultPlace, .int v0_undos, .ref a0_turnWord, .ref a0_turnFrom, .int v0_turns, .ref a0_pieceSign, .ref a0_pieceFrom, .int v0_pieces, .int v0_signs, .ref a0_runFrom, .ref a0_runLong, .ref a0_runPiece, .int v0_runs, .ref a0_alike, .ref a0_stood])), (a0_all, .inl (D.2 1, 5228, .inl g0_all)), (a0_turnWord, .inl (D.2 1, 320, .inl g0_turnWord)), (a0_turnFrom, .inl (D.2 1, 320, .inl g0_turnFrom)), (a0_pieceSign, .inl (D.2 1, 40, .inl g0_pieceSign)), (a0_runFrom, .inl (D.2 1, 40, .inl g0_runFrom)), (a0_runLong, .inl (D.2 1, 40, .inl g0_runLong))] sz) [(a0, .inr (9, [.ref a0_all, .ref a0_tape, .ref a0_isImage, .int v0_taped, .int v0_faultKind, .int v0_faultPlace, .int v0_undos, .ref a0_turnWord, .ref a0_turnFrom, .int v0_turns, .ref a0_pieceSign, .ref a0_pieceFrom, .int v0_pieces, .int v0_signs, .ref a0_runFrom, .ref a0_runLong, .ref a0_runPiece, .int v0_runs, .ref a0_alike, .ref a0_stood])), (a0_all, .inl (D.2 1, 5228, .inl g0_all)), (a0_turnWord, .inl (D.2 1, 320, .inl g0_turnWord)), (a0_turnFrom, .inl (D.2 1, 320, .inl g0_turnFrom)), (a0_pieceSign, .inl (D.2 1, 40, .inl g0_pieceSign)), (a0_runFrom, .inl (D.2 1, 40, .inl g0_runFrom)), (a0_runLong, .inl (D.2 1, 40, .inl g0_runLong))]) (va_A [(a0, .inr (9, [.ref a0_all, .ref a0_tape, .ref a0_isImage, .int v0_taped, .int v0_faultKind, .int v0_faultPlace, .int v0_undos, .ref a0_turnWord, .ref a0_turnFrom, .int v0_turns, .ref a0_pieceSign, .ref a0_pieceFrom, .int v0_pieces, .int v0_signs, .ref a0_runFrom, .ref a0_runLong, .ref a0_runPiece, .int v0_runs, .ref a0_alike, .ref a0_stood])), (a0_all, .inl (D.2 1, 5228, .inl g0_all)), (a0_turnWord, .inl (D.2 1, 320, .inl g0_turnWord)), (a0_turnFrom, .inl (D.2 1, 320, .inl g0_turnFrom)), (a0_pieceSign, .inl (D.2 1, 40, .inl g0_pieceSign)), (a0_runFrom, .inl (D.2 1, 40, .inl g0_runFrom)), (a0_runLong, .inl (D.2 1, 40, .inl g0_runLong))] sz)) 0 0 (va_A [(a0, .inr (9, [.ref a0_all, .ref a0_tape, .ref a0_isImage, .int v0_taped, .int v0_faultKind, .int v0_faultPlace, .int v0_undos, .ref a0_turnWord, .ref a0_turnFrom, .int v0_turns, .ref a0_pieceSign, .ref a0_pieceFrom, .int v0_pieces, .int v0_signs, .ref a0_runFrom, .ref a0_runLong, .ref a0_runPiece, .int v0_runs, .ref a0_alike, .ref a0_stood])), (a0_all, .inl (D.2 1, 5228, .inl g0_all)), (a0_turnWord, .inl (D.2 1, 320, .inl g0_turnWord)), (a0_turnFrom, .inl (D.2 1, 320, .inl g0_turnFrom)), (a0_pieceSign, .inl (D.2 1, 40, .inl g0_pieceSign)), (a0_runFrom, .inl (D.2 1, 40, .inl g0_runFrom)), (a0_runLong, .inl (D.2 1, 40, .inl g0_runLong))] sz) := by
  refine Met.ofW (cc := cX12_isOf) (maxL := 4) (ret := (some .boolean)) (by decide) rfl ?_
  intro p e s m args below meth c s₁ B hml hv
  obtain ⟨rfl, hsz, hP, hK, hD0⟩ := hv
  have hx := B.exec
  have hb := B.bytes
  have hr := B.returns
  have hts := atoms_spec (ws := wsX12_isOf) B.pre
  have hown : s.vm.findClass RX12 = some m.cls := findClass_of_methodNamed B.named
  have hlocks := B.notSynchronized
  subst hsz
  have hD := hD0.self (sz := s.heap.size)
  generalize hAe : va_A [(a0, .inr (9, [.ref a0_all, .ref a0_tape, .ref a0_isImage, .int v0_taped, .int v0_faultKind, .int v0_faultPlace, .int v0_undos, .ref a0_turnWord, .ref a0_turnFrom, .int v0_turns, .ref a0_pieceSign, .ref a0_pieceFrom, .int v0_pieces, .int v0_signs, .ref a0_runFrom, .ref a0_runLong, .ref a0_runPiece, .int v0_runs, .ref a0_alike, .ref a0_stood])), (a0_all, .inl (D.2 1, 5228, .inl g0_all)), (a0_turnWord, .inl (D.2 1, 320, .inl g0_turnWord)), (a0_turnFrom, .inl (D.2 1, 320, .inl g0_turnFrom)), (a0_pieceSign, .inl (D.2 1, 40, .inl g0_pieceSign)), (a0_runFrom, .inl (D.2 1, 40, .inl g0_runFrom)), (a0_runLong, .inl (D.2 1, 40, .inl g0_runLong))] s.heap.size = A at hD ⊢
  have hA : ∀ q : Nat, s.heap.size ≤ q → A q := fun q h => by rw [← hAe]; exact Or.inr h
  have l87 := zat hts 1 (w := .fieldLink RX12 87 "TurnedWordsModel" "turns" "I") rfl
  have l24 := zat hts 2 (w := .fieldLink RX12 24 "TurnedWordsModel" "turnWord" "[I") rfl
  have hwX12 : ∀ w ∈ u_ws RX12 TX12 20, w ∈ wsX12_isOf := fun w h => List.mem_cons_of_mem _ (List.mem_append_right _ h)
  have hl := lv_entry ([.ref a0, .int p1, .int p2]) (n := 4) (Nat.le_of_ble_eq_true rfl)
  rw [lg_entry_eq]
  generalize (lg_sl ([.ref a0, .int p1, .int p2]) ++ List.replicate (4 - (lg_sl ([.ref a0, .int p1, .int p2])).length) Slot.unset).toArray = ls at hl ⊢
  have hl : lv_has ls 4 [(0, .ref a0), (1, .int p1), (2, .int p2)] := hl
  refine zStart (A := A) hP (fun Q0 H locs hQ hP hS => ?_)
  have k2 : ∀ K : Nat, ∀ (x3 : Int32) (H : Heap) (locs : List Loc) (ls : Array Slot), fX12_isOf_2 N v0_turns g0_all g0_turnWord g0_turnFrom g0_pieceSign g0_runFrom g0_runLong p1 p2 K x3 = some res → va_P D.1 vwCl [(a0, .inr (9, [.ref a0_all, .ref a0_tape, .ref a0_isImage, .int v0_taped, .int v0_faultKind, .int v0_faultPlace, .int v0_undos, .ref a0_turnWord, .ref a0_turnFrom, .int v0_turns, .ref a0_pieceSign, .ref a0_pieceFrom, .int v0_pieces, .int v0_signs, .ref a0_runFrom, .ref a0_runLong, .ref a0_runPiece, .int v0_runs, .ref a0_alike, .ref a0_stood])), (a0_all, .inl (D.2 1, 5228, .inl g0_all)), (a0_turnWord, .inl (D.2 1, 320, .inl g0_turnWord)), (a0_turnFrom, .inl (D.2 1, 320, .inl g0_turnFrom)), (a0_pieceSign, .inl (D.2 1, 40, .inl g0_pieceSign)), (a0_runFrom, .inl (D.2 1, 40, .inl g0_runFrom)), (a0_runLong, .inl (D.2 1, 40, .inl g0_runLong))] H → va_D A [(a0, .inr (9, [.ref a0_all, .ref a0_tape, .ref a0_isImage, .int v0_taped, .int v0_faultKind, .int v0_faultPlace, .int v0_undos, .ref a0_turnWord, .ref a0_turnFrom, .int v0_turns, .ref a0_pieceSign, .ref a0_pieceFrom, .int v0_pieces, .int v0_signs, .ref a0_runFrom, .ref a0_runLong, .ref a0_runPiece, .int v0_runs, .ref a0_alike, .ref a0_stood])), (a0_all, .inl (D.2 1, 5228, .inl g0_all)), (a0_turnWord, .inl (D.2 1, 320, .inl g0_turnWord)), (a0_turnFrom, .inl (D.2 1, 320, .inl g0_turnFrom)), (a0_pieceSign, .inl (D.2 1, 40, .inl g0_pieceSign)), (a0_runFrom, .inl (D.2 1, 40, .inl g0_runFrom)), (a0_runLong, .inl (D.2 1, 40, .inl g0_runLong))] → va_S A s.heap H locs → lv_has ls 4 [(0, .ref a0), (1, .int p1), (2, .int p2), (3, .int x3)] → W p l e (headSpec wsX12_isOf ({ frames := 2, cells := 0, slots := 0, locals := 48 } : Room)).room s m ([.ref a0, .int p1, .int p2] : List Value).toArray below meth c H locs 0 0 Q0 (F0 m 2 ls []) := by
    intro K
    induction K with
    | zero =>
      intro x3 H locs ls hf
      rw [fX12_isOf_2] at hf
      cases hf
    | succ K ih =>
      intro x3 H locs ls hf hP hD hS hl
      rw [fX12_isOf_2] at hf
      refine lv_iload_n hx hb dX12_isOf_2 rfl (lv_at hl 3 rfl) ?_
      refine lv_aload_n hx hb dX12_isOf_3 rfl (lv_at hl 0 rfl) ?_
      refine va_get (D := D.1) (ci := 9) (v := .int v0_turns) (C := RX12) (T := TX12) (N := 20) hx hb hts hwX12 hown hK.1 hP 0 rfl rfl 9 (by decide) l87 (fun _ h9 => h9) rfl dX12_isOf_4 ?_
      refine lv_icmp_ge (tgt := 38) hx hb dX12_isOf_7 (by decide) (fun c_1 => ?_) (fun c_1 => ?_)
      · replace hf := ip c_1 hf
        refine lv_iconst (v := 0) hx hb dX12_isOf_38 (by decide) ?_
        have he := Option.some.inj hf
        rw [hQ]
        exact W.zret (v := (0 : Int32)) hx hb hr (znb (Or.inl rfl)) (fun t ht hW => by rw [← he]; exact ⟨⟨(0 : Int32), (), rfl, ⟨rfl, Or.inl rfl⟩, by rw [ht]; exact hP, hD⟩, hS.F ht⟩) hS.2.2 dX12_isOf_39
      · replace hf := im c_1 hf
        refine lv_aload_n hx hb dX12_isOf_10 rfl (lv_at hl 0 rfl) ?_
        refine va_get (D := D.1) (ci := 9) (v := .ref a0_turnWord) (C := RX12) (T := TX12) (N := 20) hx hb hts hwX12 hown hK.1 hP 0 rfl rfl 7 (by decide) l24 (fun _ h9 => h9) rfl dX12_isOf_11 ?_
        refine lv_iload_n hx hb dX12_isOf_14 rfl (lv_at hl 3 rfl) ?_
        obtain ⟨h_2, hf⟩ := gd hf
        refine va_iald hx hb hK.1 hP 2 1 rfl rfl h_2 dX12_isOf_15 ?_
        refine lv_iload_n hx hb dX12_isOf_16 rfl (lv_at hl 1 rfl) ?_
        refine lv_icmp_ne (tgt := 32) hx hb dX12_isOf_17 (by decide) (fun c_3 => ?_) (fun c_3 => ?_)
        · replace hf := im c_3 hf
          refine lv_iinc (v := (x3 + (1 : Int32))) (lv' := [(3, .int (x3 + (1 : Int32))), (0, .ref a0), (1, .int p1), (2, .int p2)]) hx hb dX12_isOf_32 hl (k := 3) rfl rfl (by decide) rfl (fun ls hl => ?_)
          refine lv_goto (tgt := 2) hx hb dX12_isOf_35 (by decide) ?_
          exact ih (x3 + (1 : Int32)) H locs ls hf hP hD hS (lv_sub hl [1, 2, 3, 0] rfl)
        · replace hf := ip c_3 hf
          refine lv_aload_n hx hb dX12_isOf_20 rfl (lv_at hl 0 rfl) ?_
          refine lv_iconst (v := 0) hx hb dX12_isOf_21 (by decide) ?_
          refine lv_iload_n hx hb dX12_isOf_22 rfl (lv_at hl 3 rfl) ?_
          refine lv_iload_n hx hb dX12_isOf_23 rfl (lv_at hl 2 rfl) ?_
          obtain ⟨r4, hr4, hf⟩ := bd hf
          refine zVz (As := [.int (0 : Int32), .int x3, .int p2]) (rest := []) (ci := 9) (q0 := 0) (wn := [(a0, .inr (9, [.ref a0_all, .ref a0_tape, .ref a0_isImage, .int v0_taped, .int v0_faultKind, .int v0_faultPlace, .int v0_undos, .ref a0_turnWord, .ref a0_turnFrom, .int v0_turns, .ref a0_pieceSign, .ref a0_pieceFrom, .int v0_pieces, .int v0_signs, .ref a0_runFrom, .ref a0_runLong, .ref a0_runPiece, .int v0_runs, .ref a0_alike, .ref a0_stood])), (a0_all, .inl (D.2 1, 5228, .inl g0_all)), (a0_turnWord, .inl (D.2 1, 320, .inl g0_turnWord)), (a0_turnFrom, .inl (D.2 1, 320, .inl g0_turnFrom)), (a0_pieceSign, .inl (D.2 1, 40, .inl g0_pieceSign)), (a0_runFrom, .inl (D.2 1, 40, .inl g0_runFrom)), (a0_runLong, .inl (D.2 1, 40, .inl g0_runLong))]) ⟨hx, hb, hml, hown, hts⟩ (mX12_begins l D a0 a0_all a0_tape a0_isImage a0_turnWord a0_turnFrom a0_pieceSign a0_pieceFrom a0_runFrom a0_runLong a0_runPiece a0_alike a0_stood H.size v0_taped v0_faultKind v0_faultPlace v0_undos v0_turns v0_pieces v0_signs v0_runs g0_all g0_turnWord g0_turnFrom g0_pieceSign g0_runFrom g0_runLong (0 : Int32) x3 p2 N r4 hr4) (cwV 3 hts gX12_isOf_X12_begins rfl rfl rfl (by decide +kernel) ⟨Nat.le_of_ble_eq_true rfl, Nat.le_of_ble_eq_true rfl⟩) hK hP hD hS hA [0, 1, 2, 3, 4, 5, 6] [] [0, 1, 2, 3, 4, 5, 6] rfl (by decide) rfl (by decide) (by decide) rfl (by decide) rfl rfl rfl hl.1 rfl (Nat.le_of_ble_eq_true rfl) dX12_isOf_24 ⟨Nat.zero_le _, Nat.zero_le _⟩ (fun H locs hb_5 hP hD hS => ?_)
          refine lv_if_eq (tgt := 32) hx hb dX12_isOf_27 (by decide) (fun c_6 => ?_) (fun c_6 => ?_)
          · replace hf := ip c_6 hf
            refine lv_iinc (v := (x3 + (1 : Int32))) (lv' := [(3, .int (x3 + (1 : Int32))), (0, .ref a0), (1, .int p1), (2, .int p2)]) hx hb dX12_isOf_32 hl (k := 3) rfl rfl (by decide) rfl (fun ls hl => ?_)
            refine lv_goto (tgt := 2) hx hb dX12_isOf_35 (by decide) ?_
            exact ih (x3 + (1 : Int32)) H locs ls hf hP hD hS (lv_sub hl [1, 2, 3, 0] rfl)
          · replace hf := im c_6 hf
            refine lv_iconst (v := 1) hx hb dX12_isOf_30 (by decide) ?_
            have he := Option.some.inj hf
            rw [hQ]
            exact W.zret (v := (1 : Int32)) hx hb hr (znb (Or.inr rfl)) (fun t ht hW => by rw [← he]; exact ⟨⟨(1 : Int32), (), rfl, ⟨rfl, Or.inr rfl⟩, by rw [ht]; exact hP, hD⟩, hS.F ht⟩) hS.2.2 dX12_isOf_31
  unfold fX12_isOf at hf
  refine lv_iconst (v := 0) hx hb dX12_isOf_0 (by decide) ?_
  refine lv_istore_n (lv' := [(3, .int (0 : Int32)), (0, .ref a0), (1, .int p1), (2, .int p2)]) hx hb dX12_isOf_1 rfl hl (by decide) rfl (fun ls hl => ?_)
  exact k2 N (0 : Int32) H locs ls hf hP hD hS (lv_sub hl [1, 2, 3, 0] rfl)
def fX12_longest_4 (N : Nat) (v0_runs : Int32) (g0_runLong : Nat → Int32) : Nat → Int32 → Int32 → Option (Int32)
  | 0, _, _ => none
  | K + 1, x1, x2 =>
    if v0_runs ≤ x2 then
      some (x1)
    else
      if x2 < 0 ∨ 40 ≤ (x2).toNatClampNeg then none else
      if x1 < 0 ∨ 40 ≤ (x1).toNatClampNeg then none else
      if (g0_runLong (x2).toNatClampNeg) ≤ (g0_runLong (x1).toNatClampNeg) then
        (fX12_longest_4 N v0_runs g0_runLong K) x1 (x2 + (1 : Int32))
      else
        (fX12_longest_4 N v0_runs g0_runLong K) x2 (x2 + (1 : Int32))
def fX12_longest (N : Nat) (v0_runs : Int32) (g0_runLong : Nat → Int32) : Option (Int32) :=
  fX12_longest_4 N v0_runs g0_runLong N (0 : Int32) (1 : Int32)
set_option maxHeartbeats 4000000 in
set_option maxRecDepth 100000 in
theorem mX12_longest (l : Launch) (D : zG) (a0 : Nat) (a0_all : Nat) (a0_tape : Nat) (a0_isImage : Nat) (a0_turnWord : Nat) (a0_turnFrom : Nat) (a0_pieceSign : Nat) (a0_pieceFrom : Nat) (a0_runFrom : Nat) (a0_runLong : Nat) (a0_runPiece : Nat) (a0_alike : Nat) (a0_stood : Nat) (sz : Nat)  (v0_taped : Int32) (v0_faultKind : Int32) (v0_faultPlace : Int32) (v0_undos : Int32) (v0_turns : Int32) (v0_pieces : Int32) (v0_signs : Int32) (v0_runs : Int32) (g0_runLong : Nat → Int32)  (N : Nat) (res : Int32) (hf : fX12_longest N v0_runs g0_runLong = some res) : Met l yX12_longest wsX12_longest ({ frames := 0, cells := 0, slots := 0, locals := 0 } : Room) (va_Pc [.ref a0] (zW D sz [(a0, .inr (9, [.ref a0_all, .ref a0_tape, .ref a0_isImage, .int v0_taped, .int v0_faultKind, .int v0_faultPlace, .int v0_undos, .ref a0_turnWord, .ref a0_turnFrom, .int v0_turns, .ref a0_pieceSign, .ref a0_pieceFrom, .int v0_pieces, .int v0_signs, .ref a0_runFrom, .ref a0_runLong, .ref a0_runPiece, .int v0_runs, .ref a0_alike, .ref a0_stood])), (a0_runLong, .inl (D.2 1, 40, .inl g0_runLong))])) (va_Qi (fun r (_ : Unit) => r = res) (fun _ => zB D (va_A [(a0, .inr (9, [.ref a0_all, .ref a0_tape, .ref a0_isImage, .int v0_taped, .int v0_faultKind, .int v0_faultPlace, .int v0_undos, .ref a0_turnWord, .ref a0_turnFrom, .int v0_turns, .ref a0_pieceSign, .ref a0_pieceFrom, .int v0_pieces, .int v0_signs, .ref a0_runFrom, .ref a0_runLong, .ref a0_runPiece, .int v0_runs, .ref a0_alike, .ref a0_stood])), (a0_runLong, .inl (D.2 1, 40, .inl g0_runLong))] sz) [(a0, .inr (9, [.ref a0_all, .ref a0_tape, .ref a0_isImage, .int v0_taped, .int v0_faultKind, .int v0_faultPlace, .int v0_undos, .ref a0_turnWord, .ref a0_turnFrom, .int v0_turns, .ref a0_pieceSign, .ref a0_pieceFrom, .int v0_pieces, .int v0_signs, .ref a0_runFrom, .ref a0_runLong, .ref a0_runPiece, .int v0_runs, .ref a0_alike, .ref a0_stood])), (a0_runLong, .inl (D.2 1, 40, .inl g0_runLong))]) (va_A [(a0, .inr (9, [.ref a0_all, .ref a0_tape, .ref a0_isImage, .int v0_taped, .int v0_faultKind, .int v0_faultPlace, .int v0_undos, .ref a0_turnWord, .ref a0_turnFrom, .int v0_turns, .ref a0_pieceSign, .ref a0_pieceFrom, .int v0_pieces, .int v0_signs, .ref a0_runFrom, .ref a0_runLong, .ref a0_runPiece, .int v0_runs, .ref a0_alike, .ref a0_stood])), (a0_runLong, .inl (D.2 1, 40, .inl g0_runLong))] sz)) 0 0 (va_A [(a0, .inr (9, [.ref a0_all, .ref a0_tape, .ref a0_isImage, .int v0_taped, .int v0_faultKind, .int v0_faultPlace, .int v0_undos, .ref a0_turnWord, .ref a0_turnFrom, .int v0_turns, .ref a0_pieceSign, .ref a0_pieceFrom, .int v0_pieces, .int v0_signs, .ref a0_runFrom, .ref a0_runLong, .ref a0_runPiece, .int v0_runs, .ref a0_alike, .ref a0_stood])), (a0_runLong, .inl (D.2 1, 40, .inl g0_runLong))] sz) := by
  refine Met.ofW (cc := cX12_longest) (maxL := 3) (ret := (some .int)) (by decide) rfl ?_
  intro p e s m args below meth c s₁ B hml hv
  obtain ⟨rfl, hsz, hP, hK, hD0⟩ := hv
  have hx := B.exec
  have hb := B.bytes
  have hr := B.returns
  have hts := atoms_spec (ws := wsX12_longest) B.pre
  have hown : s.vm.findClass RX12 = some m.cls := findClass_of_methodNamed B.named
  have hlocks := B.notSynchronized
  subst hsz
  have hD := hD0.self (sz := s.heap.size)
  generalize hAe : va_A [(a0, .inr (9, [.ref a0_all, .ref a0_tape, .ref a0_isImage, .int v0_taped, .int v0_faultKind, .int v0_faultPlace, .int v0_undos, .ref a0_turnWord, .ref a0_turnFrom, .int v0_turns, .ref a0_pieceSign, .ref a0_pieceFrom, .int v0_pieces, .int v0_signs, .ref a0_runFrom, .ref a0_runLong, .ref a0_runPiece, .int v0_runs, .ref a0_alike, .ref a0_stood])), (a0_runLong, .inl (D.2 1, 40, .inl g0_runLong))] s.heap.size = A at hD ⊢
  have hA : ∀ q : Nat, s.heap.size ≤ q → A q := fun q h => by rw [← hAe]; exact Or.inr h
  have l122 := zat hts 1 (w := .fieldLink RX12 122 "TurnedWordsModel" "runs" "I") rfl
  have l39 := zat hts 2 (w := .fieldLink RX12 39 "TurnedWordsModel" "runLong" "[I") rfl
  have hwX12 : ∀ w ∈ u_ws RX12 TX12 20, w ∈ wsX12_longest := fun w h => List.mem_cons_of_mem _ (List.mem_append_right _ h)
  have hl := lv_entry ([.ref a0]) (n := 3) (Nat.le_of_ble_eq_true rfl)
  rw [lg_entry_eq]
  generalize (lg_sl ([.ref a0]) ++ List.replicate (3 - (lg_sl ([.ref a0])).length) Slot.unset).toArray = ls at hl ⊢
  have hl : lv_has ls 3 [(0, .ref a0)] := hl
  refine zStart (A := A) hP (fun Q0 H locs hQ hP hS => ?_)
  have k4 : ∀ K : Nat, ∀ (x1 : Int32) (x2 : Int32) (H : Heap) (locs : List Loc) (ls : Array Slot), fX12_longest_4 N v0_runs g0_runLong K x1 x2 = some res → va_P D.1 vwCl [(a0, .inr (9, [.ref a0_all, .ref a0_tape, .ref a0_isImage, .int v0_taped, .int v0_faultKind, .int v0_faultPlace, .int v0_undos, .ref a0_turnWord, .ref a0_turnFrom, .int v0_turns, .ref a0_pieceSign, .ref a0_pieceFrom, .int v0_pieces, .int v0_signs, .ref a0_runFrom, .ref a0_runLong, .ref a0_runPiece, .int v0_runs, .ref a0_alike, .ref a0_stood])), (a0_runLong, .inl (D.2 1, 40, .inl g0_runLong))] H → va_D A [(a0, .inr (9, [.ref a0_all, .ref a0_tape, .ref a0_isImage, .int v0_taped, .int v0_faultKind, .int v0_faultPlace, .int v0_undos, .ref a0_turnWord, .ref a0_turnFrom, .int v0_turns, .ref a0_pieceSign, .ref a0_pieceFrom, .int v0_pieces, .int v0_signs, .ref a0_runFrom, .ref a0_runLong, .ref a0_runPiece, .int v0_runs, .ref a0_alike, .ref a0_stood])), (a0_runLong, .inl (D.2 1, 40, .inl g0_runLong))] → va_S A s.heap H locs → lv_has ls 3 [(0, .ref a0), (1, .int x1), (2, .int x2)] → W p l e (headSpec wsX12_longest ({ frames := 0, cells := 0, slots := 0, locals := 0 } : Room)).room s m ([.ref a0] : List Value).toArray below meth c H locs 0 0 Q0 (F0 m 4 ls []) := by
    intro K
    induction K with
    | zero =>
      intro x1 x2 H locs ls hf
      rw [fX12_longest_4] at hf
      cases hf
    | succ K ih =>
      intro x1 x2 H locs ls hf hP hD hS hl
      rw [fX12_longest_4] at hf
      refine lv_iload_n hx hb dX12_longest_4 rfl (lv_at hl 2 rfl) ?_
      refine lv_aload_n hx hb dX12_longest_5 rfl (lv_at hl 0 rfl) ?_
      refine va_get (D := D.1) (ci := 9) (v := .int v0_runs) (C := RX12) (T := TX12) (N := 20) hx hb hts hwX12 hown hK.1 hP 0 rfl rfl 17 (by decide) l122 (fun _ h9 => h9) rfl dX12_longest_6 ?_
      refine lv_icmp_ge (tgt := 39) hx hb dX12_longest_9 (by decide) (fun c_1 => ?_) (fun c_1 => ?_)
      · replace hf := ip c_1 hf
        refine lv_iload_n hx hb dX12_longest_39 rfl (lv_at hl 1 rfl) ?_
        have he := Option.some.inj hf
        rw [hQ]
        exact W.iret (v := x1) hx hb hr (fun t ht hW => by rw [← he]; exact ⟨⟨x1, (), rfl, rfl, by rw [ht]; exact hP, hD⟩, hS.F ht⟩) hS.2.2 dX12_longest_40
      · replace hf := im c_1 hf
        refine lv_aload_n hx hb dX12_longest_12 rfl (lv_at hl 0 rfl) ?_
        refine va_get (D := D.1) (ci := 9) (v := .ref a0_runLong) (C := RX12) (T := TX12) (N := 20) hx hb hts hwX12 hown hK.1 hP 0 rfl rfl 15 (by decide) l39 (fun _ h9 => h9) rfl dX12_longest_13 ?_
        refine lv_iload_n hx hb dX12_longest_16 rfl (lv_at hl 2 rfl) ?_
        obtain ⟨h_2, hf⟩ := gd hf
        refine va_iald hx hb hK.1 hP 1 1 rfl rfl h_2 dX12_longest_17 ?_
        refine lv_aload_n hx hb dX12_longest_18 rfl (lv_at hl 0 rfl) ?_
        refine va_get (D := D.1) (ci := 9) (v := .ref a0_runLong) (C := RX12) (T := TX12) (N := 20) hx hb hts hwX12 hown hK.1 hP 0 rfl rfl 15 (by decide) l39 (fun _ h9 => h9) rfl dX12_longest_19 ?_
        refine lv_iload_n hx hb dX12_longest_22 rfl (lv_at hl 1 rfl) ?_
        obtain ⟨h_3, hf⟩ := gd hf
        refine va_iald hx hb hK.1 hP 1 1 rfl rfl h_3 dX12_longest_23 ?_
        refine lv_icmp_le (tgt := 31) hx hb dX12_longest_24 (by decide) (fun c_4 => ?_) (fun c_4 => ?_)
        · replace hf := ip c_4 hf
          refine lv_iload_n hx hb dX12_longest_31 rfl (lv_at hl 1 rfl) ?_
          refine lv_istore_n (lv' := [(1, .int x1), (0, .ref a0), (2, .int x2)]) hx hb dX12_longest_32 rfl hl (by decide) rfl (fun ls hl => ?_)
          refine lv_iinc (v := (x2 + (1 : Int32))) (lv' := [(2, .int (x2 + (1 : Int32))), (1, .int x1), (0, .ref a0)]) hx hb dX12_longest_33 hl (k := 2) rfl rfl (by decide) rfl (fun ls hl => ?_)
          refine lv_goto (tgt := 4) hx hb dX12_longest_36 (by decide) ?_
          exact ih x1 (x2 + (1 : Int32)) H locs ls hf hP hD hS (lv_sub hl [2, 1, 0] rfl)
        · replace hf := im c_4 hf
          refine lv_iload_n hx hb dX12_longest_27 rfl (lv_at hl 2 rfl) ?_
          refine lv_goto (tgt := 32) hx hb dX12_longest_28 (by decide) ?_
          refine lv_istore_n (lv' := [(1, .int x2), (0, .ref a0), (2, .int x2)]) hx hb dX12_longest_32 rfl hl (by decide) rfl (fun ls hl => ?_)
          refine lv_iinc (v := (x2 + (1 : Int32))) (lv' := [(2, .int (x2 + (1 : Int32))), (1, .int x2), (0, .ref a0)]) hx hb dX12_longest_33 hl (k := 2) rfl rfl (by decide) rfl (fun ls hl => ?_)
          refine lv_goto (tgt := 4) hx hb dX12_longest_36 (by decide) ?_
          exact ih x2 (x2 + (1 : Int32)) H locs ls hf hP hD hS (lv_sub hl [2, 1, 0] rfl)
  unfold fX12_longest at hf
  refine lv_iconst (v := 0) hx hb dX12_longest_0 (by decide) ?_
  refine lv_istore_n (lv' := [(1, .int (0 : Int32)), (0, .ref a0)]) hx hb dX12_longest_1 rfl hl (by decide) rfl (fun ls hl => ?_)
  refine lv_iconst (v := 1) hx hb dX12_longest_2 (by decide) ?_
  refine lv_istore_n (lv' := [(2, .int (1 : Int32)), (1, .int (0 : Int32)), (0, .ref a0)]) hx hb dX12_longest_3 rfl hl (by decide) rfl (fun ls hl => ?_)
  exact k4 N (0 : Int32) (1 : Int32) H locs ls hf hP hD hS (lv_sub hl [2, 1, 0] rfl)
