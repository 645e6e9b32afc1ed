def fX12_answer_12 (N : Nat) (p1 : Int32) (p2 : Int32) : Nat → Int32 → Int32 → Int32 → (Nat → Int32) → Option (Int32 × (Nat → Int32))
  | 0, _, _, _, _ => none
  | K + 1, x3, x4, x5, g0_all =>
    if x3 < 0 ∨ 5228 ≤ (x3).toNatClampNeg then none else
    if (g0_all (x3).toNatClampNeg) ≤ x5 then
      some ((-1 : Int32), g0_all)
    else
      Option.bind (fX12_wordAt x3 x5) fun r4 =>
      Option.bind (fX12_meets N g0_all (430 : Int32) r4) fun r5 =>
      if r5 = (0 : Int32) then
        (fX12_answer_12 N p1 p2 K) x3 x4 (x5 + (1 : Int32)) g0_all
      else
        if x4 = p1 then
          some (x5, g0_all)
        else
          (fX12_answer_12 N p1 p2 K) x3 (x4 + (1 : Int32)) (x5 + (1 : Int32)) g0_all
def fX12_answer (N : Nat) (g0_all : Nat → Int32) (p1 : Int32) (p2 : Int32) : Option (Int32 × (Nat → Int32)) :=
  Option.bind (fX12_from N g0_all p2) fun r1 =>
  fX12_answer_12 N p1 p2 N r1.1 (0 : Int32) (0 : Int32) r1.2
set_option maxHeartbeats 4000000 in
set_option maxRecDepth 100000 in
theorem mX12_answer (l : Launch) (D : zG) (a0 : Nat) (a0_all : Nat) (a0_tape : Nat) (a0_isImage : Nat) (a0_turnWord : Nat) (a0_turnFrom : Nat) (a0_pieceSign : Nat) (a0_pieceFrom : Nat) (a0_runFrom : Nat) (a0_runLong : Nat) (a0_runPiece : Nat) (a0_alike : Nat) (a0_stood : Nat) (sz : Nat)  (v0_taped : Int32) (v0_faultKind : Int32) (v0_faultPlace : Int32) (v0_undos : Int32) (v0_turns : Int32) (v0_pieces : Int32) (v0_signs : Int32) (v0_runs : Int32) (g0_all : Nat → Int32) (p1 : Int32) (p2 : Int32) (N : Nat) (res : Int32 × (Nat → Int32)) (hf : fX12_answer N g0_all p1 p2 = some res) : Met l yX12_answer wsX12_answer ({ frames := 4, cells := 0, slots := 0, locals := 91 } : Room) (va_Pc [.ref a0, .int p1, .int p2] (zW D sz [(a0, .inr (9, [.ref a0_all, .ref a0_tape, .ref a0_isImage, .int v0_taped, .int v0_faultKind, .int v0_faultPlace, .int v0_undos, .ref a0_turnWord, .ref a0_turnFrom, .int v0_turns, .ref a0_pieceSign, .ref a0_pieceFrom, .int v0_pieces, .int v0_signs, .ref a0_runFrom, .ref a0_runLong, .ref a0_runPiece, .int v0_runs, .ref a0_alike, .ref a0_stood])), (a0_all, .inl (D.2 1, 5228, .inl g0_all))])) (va_Qi (fun r (_ : Unit) => r = res.1) (fun _ => zB D (va_A [(a0, .inr (9, [.ref a0_all, .ref a0_tape, .ref a0_isImage, .int v0_taped, .int v0_faultKind, .int v0_faultPlace, .int v0_undos, .ref a0_turnWord, .ref a0_turnFrom, .int v0_turns, .ref a0_pieceSign, .ref a0_pieceFrom, .int v0_pieces, .int v0_signs, .ref a0_runFrom, .ref a0_runLong, .ref a0_runPiece, .int v0_runs, .ref a0_alike, .ref a0_stood])), (a0_all, .inl (D.2 1, 5228, .inl g0_all))] sz) [(a0, .inr (9, [.ref a0_all, .ref a0_tape, .ref a0_isImage, .int v0_taped, .int v0_faultKind, .int v0_faultPlace, .int v0_undos, .ref a0_turnWord, .ref a0_turnFrom, .int v0_turns, .ref a0_pieceSign, .ref a0_pieceFrom, .int v0_pieces, .int v0_signs, .ref a0_runFrom, .ref a0_runLong, .ref a0_runPiece, .int v0_runs, .ref a0_alike, .ref a0_stood])), (a0_all, .inl (D.2 1, 5228, .inl res.2))]) (va_A [(a0, .inr (9, [.ref a0_all, .ref a0_tape, .ref a0_isImage, .int v0_taped, .int v0_faultKind, .int v0_faultPlace, .int v0_undos, .ref a0_turnWord, .ref a0_turnFrom, .int v0_turns, .ref a0_pieceSign, .ref a0_pieceFrom, .int v0_pieces, .int v0_signs, .ref a0_runFrom, .ref a0_runLong, .ref a0_runPiece, .int v0_runs, .ref a0_alike, .ref a0_stood])), (a0_all, .inl (D.2 1, 5228, .inl g0_all))] sz)) 0 0 (va_A [(a0, .inr (9, [.ref a0_all, .ref a0_tape, .ref a0_isImage, .int v0_taped, .int v0_faultKind, .int v0_faultPlace, .int v0_undos, .ref a0_turnWord, .ref a0_turnFrom, .int v0_turns, .ref a0_pieceSign, .ref a0_pieceFrom, .int v0_pieces, .int v0_signs, .ref a0_runFrom, .ref a0_runLong, .ref a0_runPiece, .int v0_runs, .ref a0_alike, .ref a0_stood])), (a0_all, .inl (D.2 1, 5228, .inl g0_all))] sz) := by
  refine Met.ofW (cc := cX12_answer) (maxL := 6) (ret := (some .int)) (by decide) rfl ?_
  intro p e s m args below meth c s₁ B hml hv
  obtain ⟨rfl, hsz, hP, hK, hD0⟩ := hv
  have hx := B.exec
  have hb := B.bytes
  have hr := B.returns
  have hts := atoms_spec (ws := wsX12_answer) B.pre
  have hown : s.vm.findClass RX12 = some m.cls := findClass_of_methodNamed B.named
  have hlocks := B.notSynchronized
  subst hsz
  have hD := hD0.self (sz := s.heap.size)
  generalize hAe : va_A [(a0, .inr (9, [.ref a0_all, .ref a0_tape, .ref a0_isImage, .int v0_taped, .int v0_faultKind, .int v0_faultPlace, .int v0_undos, .ref a0_turnWord, .ref a0_turnFrom, .int v0_turns, .ref a0_pieceSign, .ref a0_pieceFrom, .int v0_pieces, .int v0_signs, .ref a0_runFrom, .ref a0_runLong, .ref a0_runPiece, .int v0_runs, .ref a0_alike, .ref a0_stood])), (a0_all, .inl (D.2 1, 5228, .inl g0_all))] s.heap.size = A at hD ⊢
  have hA : ∀ q : Nat, s.heap.size ≤ q → A q := fun q h => by rw [← hAe]; exact Or.inr h
  have l7 := zat hts 1 (w := .fieldLink RX12 7 "TurnedWordsModel" "all" "[I") rfl
  have hwX12 : ∀ w ∈ u_ws RX12 TX12 20, w ∈ wsX12_answer := fun w h => List.mem_cons_of_mem _ (List.mem_append_right _ h)
  have hl := lv_entry ([.ref a0, .int p1, .int p2]) (n := 6) (Nat.le_of_ble_eq_true rfl)
  rw [lg_entry_eq]
  generalize (lg_sl ([.ref a0, .int p1, .int p2]) ++ List.replicate (6 - (lg_sl ([.ref a0, .int p1, .int p2])).length) Slot.unset).toArray = ls at hl ⊢
  have hl : lv_has ls 6 [(0, .ref a0), (1, .int p1), (2, .int p2)] := hl
  refine zStart (A := A) hP (fun Q0 H locs hQ hP hS => ?_)
  have k12 : ∀ K : Nat, ∀ (x3 : Int32) (x4 : Int32) (x5 : Int32) (g0_all : Nat → Int32) (H : Heap) (locs : List Loc) (ls : Array Slot), fX12_answer_12 N p1 p2 K x3 x4 x5 g0_all = some res → va_P D.1 vwCl [(a0, .inr (9, [.ref a0_all, .ref a0_tape, .ref a0_isImage, .int v0_taped, .int v0_faultKind, .int v0_faultPlace, .int v0_undos, .ref a0_turnWord, .ref a0_turnFrom, .int v0_turns, .ref a0_pieceSign, .ref a0_pieceFrom, .int v0_pieces, .int v0_signs, .ref a0_runFrom, .ref a0_runLong, .ref a0_runPiece, .int v0_runs, .ref a0_alike, .ref a0_stood])), (a0_all, .inl (D.2 1, 5228, .inl g0_all))] H → va_D A [(a0, .inr (9, [.ref a0_all, .ref a0_tape, .ref a0_isImage, .int v0_taped, .int v0_faultKind, .int v0_faultPlace, .int v0_undos, .ref a0_turnWord, .ref a0_turnFrom, .int v0_turns, .ref a0_pieceSign, .ref a0_pieceFrom, .int v0_pieces, .int v0_signs, .ref a0_runFrom, .ref a0_runLong, .ref a0_runPiece, .int v0_runs, .ref a0_alike, .ref a0_stood])), (a0_all, .inl (D.2 1, 5228, .inl g0_all))] → va_S A s.heap H locs → lv_has ls 6 [(0, .ref a0), (1, .int p1), (3, .int x3), (4, .int x4), (5, .int x5)] → W p l e (headSpec wsX12_answer ({ frames := 4, cells := 0, slots := 0, locals := 91 } : Room)).room s m ([.ref a0, .int p1, .int p2] : List Value).toArray below meth c H locs 0 0 Q0 (F0 m 12 ls []) := by
    intro K
    induction K with
    | zero =>
      intro x3 x4 x5 g0_all H locs ls hf
      rw [fX12_answer_12] at hf
      cases hf
    | succ K ih =>
      intro x3 x4 x5 g0_all H locs ls hf hP hD hS hl
      rw [fX12_answer_12] at hf
      refine lv_iload hx hb dX12_answer_12 (lv_at hl 4 rfl) ?_
      refine lv_aload_n hx hb dX12_answer_14 rfl (lv_at hl 0 rfl) ?_
      refine va_get (D := D.1) (ci := 9) (v := .ref a0_all) (C := RX12) (T := TX12) (N := 20) hx hb hts hwX12 hown hK.1 hP 0 rfl rfl 0 (by decide) l7 (fun _ h9 => h9) rfl dX12_answer_15 ?_
      refine lv_iload_n hx hb dX12_answer_18 rfl (lv_at hl 2 rfl) ?_
      obtain ⟨h_2, hf⟩ := gd hf
      refine va_iald hx hb hK.1 hP 1 1 rfl rfl h_2 dX12_answer_19 ?_
      refine lv_icmp_ge (tgt := 60) hx hb dX12_answer_20 (by decide) (fun c_3 => ?_) (fun c_3 => ?_)
      · replace hf := ip c_3 hf
        refine lv_iconst (v := -1) hx hb dX12_answer_60 (by decide) ?_
        have he := Option.some.inj hf
        rw [hQ]
        exact W.iret (v := (-1 : Int32)) hx hb hr (fun t ht hW => by rw [← he]; exact ⟨⟨(-1 : Int32), (), rfl, rfl, by rw [ht]; exact hP, hD⟩, hS.F ht⟩) hS.2.2 dX12_answer_61
      · replace hf := im c_3 hf
        refine lv_aload_n hx hb dX12_answer_23 rfl (lv_at hl 0 rfl) ?_
        refine lv_sipush (v := 430) hx hb dX12_answer_24 (by decide) ?_
        refine lv_iload_n hx hb dX12_answer_27 rfl (lv_at hl 2 rfl) ?_
        refine lv_iload hx hb dX12_answer_28 (lv_at hl 4 rfl) ?_
        obtain ⟨r4, hr4, hf⟩ := bd hf
        refine zSi (As := [.int x3, .int x5]) (rest := [.int (430 : Int32), .ref a0]) (wn := [(a0, .inr (9, [.ref a0_all, .ref a0_tape, .ref a0_isImage, .int v0_taped, .int v0_faultKind, .int v0_faultPlace, .int v0_undos, .ref a0_turnWord, .ref a0_turnFrom, .int v0_turns, .ref a0_pieceSign, .ref a0_pieceFrom, .int v0_pieces, .int v0_signs, .ref a0_runFrom, .ref a0_runLong, .ref a0_runPiece, .int v0_runs, .ref a0_alike, .ref a0_stood])), (a0_all, .inl (D.2 1, 5228, .inl g0_all))]) ⟨hx, hb, hml, hown, hts⟩ (mX12_wordAt l D H.size x3 x5 r4 hr4) (va_cwS 2 hts gX12_answer_X12_wordAt rfl rfl rfl (by decide +kernel) ⟨Nat.le_of_ble_eq_true rfl, Nat.le_of_ble_eq_true rfl⟩) hK hP hD hS hA [] [0, 1] [0, 1] rfl (by decide) rfl (by decide) (by decide) rfl (by decide) rfl hl.1 rfl (Nat.le_of_ble_eq_true rfl) dX12_answer_30 ⟨Nat.zero_le _, Nat.zero_le _⟩ (fun H locs hP hD hS => ?_)
        obtain ⟨r5, hr5, hf⟩ := bd hf
        refine zVz (As := [.int (430 : Int32), .int r4]) (rest := []) (ci := 9) (q0 := 0) (wn := [(a0, .inr (9, [.ref a0_all, .ref a0_tape, .ref a0_isImage, .int v0_taped, .int v0_faultKind, .int v0_faultPlace, .int v0_undos, .ref a0_turnWord, .ref a0_turnFrom, .int v0_turns, .ref a0_pieceSign, .ref a0_pieceFrom, .int v0_pieces, .int v0_signs, .ref a0_runFrom, .ref a0_runLong, .ref a0_runPiece, .int v0_runs, .ref a0_alike, .ref a0_stood])), (a0_all, .inl (D.2 1, 5228, .inl g0_all))]) ⟨hx, hb, hml, hown, hts⟩ (mX12_meets l D a0 a0_all a0_tape a0_isImage a0_turnWord a0_turnFrom a0_pieceSign a0_pieceFrom a0_runFrom a0_runLong a0_runPiece a0_alike a0_stood H.size v0_taped v0_faultKind v0_faultPlace v0_undos v0_turns v0_pieces v0_signs v0_runs g0_all (430 : Int32) r4 N r5 hr5) (cwV 2 hts gX12_answer_X12_meets rfl rfl rfl (by decide +kernel) ⟨Nat.le_of_ble_eq_true rfl, Nat.le_of_ble_eq_true rfl⟩) hK hP hD hS hA [0, 1] [] [0, 1] rfl (by decide) rfl (by decide) (by decide) rfl (by decide) rfl rfl rfl hl.1 rfl (Nat.le_of_ble_eq_true rfl) dX12_answer_33 ⟨Nat.zero_le _, Nat.zero_le _⟩ (fun H locs hb_6 hP hD hS => ?_)
        refine lv_if_ne (tgt := 42) hx hb dX12_answer_36 (by decide) (fun c_7 => ?_) (fun c_7 => ?_)
        · replace hf := im c_7 hf
          refine lv_iload hx hb dX12_answer_42 (lv_at hl 3 rfl) ?_
          refine lv_iload_n hx hb dX12_answer_44 rfl (lv_at hl 1 rfl) ?_
          refine lv_icmp_ne (tgt := 51) hx hb dX12_answer_45 (by decide) (fun c_8 => ?_) (fun c_8 => ?_)
          · replace hf := im c_8 hf
            refine lv_iinc (v := (x4 + (1 : Int32))) (lv' := [(4, .int (x4 + (1 : Int32))), (0, .ref a0), (1, .int p1), (3, .int x3), (5, .int x5)]) hx hb dX12_answer_51 hl (k := 3) rfl rfl (by decide) rfl (fun ls hl => ?_)
            refine lv_iinc (v := (x5 + (1 : Int32))) (lv' := [(5, .int (x5 + (1 : Int32))), (4, .int (x4 + (1 : Int32))), (0, .ref a0), (1, .int p1), (3, .int x3)]) hx hb dX12_answer_54 hl (k := 4) rfl rfl (by decide) rfl (fun ls hl => ?_)
            refine lv_goto (tgt := 12) hx hb dX12_answer_57 (by decide) ?_
            exact ih x3 (x4 + (1 : Int32)) (x5 + (1 : Int32)) g0_all H locs ls hf hP hD hS (lv_sub hl [2, 3, 4, 1, 0] rfl)
          · replace hf := ip c_8 hf
            refine lv_iload hx hb dX12_answer_48 (lv_at hl 4 rfl) ?_
            have he := Option.some.inj hf
            rw [hQ]
            exact W.iret (v := x5) hx hb hr (fun t ht hW => by rw [← he]; exact ⟨⟨x5, (), rfl, rfl, by rw [ht]; exact hP, hD⟩, hS.F ht⟩) hS.2.2 dX12_answer_50
        · replace hf := ip c_7 hf
          refine lv_goto (tgt := 54) hx hb dX12_answer_39 (by decide) ?_
          refine lv_iinc (v := (x5 + (1 : Int32))) (lv' := [(5, .int (x5 + (1 : Int32))), (0, .ref a0), (1, .int p1), (3, .int x3), (4, .int x4)]) hx hb dX12_answer_54 hl (k := 4) rfl rfl (by decide) rfl (fun ls hl => ?_)
          refine lv_goto (tgt := 12) hx hb dX12_answer_57 (by decide) ?_
          exact ih x3 x4 (x5 + (1 : Int32)) g0_all H locs ls hf hP hD hS (lv_sub hl [1, 2, 3, 4, 0] rfl)
  unfold fX12_answer at hf
  refine lv_aload_n hx hb dX12_answer_0 rfl (lv_at hl 0 rfl) ?_
  refine lv_iload_n hx hb dX12_answer_1 rfl (lv_at hl 2 rfl) ?_
  obtain ⟨r1, hr1, hf⟩ := bd hf
  refine zVi (As := [.int p2]) (rest := []) (ci := 9) (q0 := 0) (wn := [(a0, .inr (9, [.ref a0_all, .ref a0_tape, .ref a0_isImage, .int v0_taped, .int v0_faultKind, .int v0_faultPlace, .int v0_undos, .ref a0_turnWord, .ref a0_turnFrom, .int v0_turns, .ref a0_pieceSign, .ref a0_pieceFrom, .int v0_pieces, .int v0_signs, .ref a0_runFrom, .ref a0_runLong, .ref a0_runPiece, .int v0_runs, .ref a0_alike, .ref a0_stood])), (a0_all, .inl (D.2 1, 5228, .inl r1.2))]) ⟨hx, hb, hml, hown, hts⟩ (mX12_from l D a0 a0_all a0_tape a0_isImage a0_turnWord a0_turnFrom a0_pieceSign a0_pieceFrom a0_runFrom a0_runLong a0_runPiece a0_alike a0_stood H.size v0_taped v0_faultKind v0_faultPlace v0_undos v0_turns v0_pieces v0_signs v0_runs g0_all p2 N r1 hr1) (cwV 1 hts gX12_answer_X12_from rfl rfl rfl (by decide +kernel) ⟨Nat.le_of_ble_eq_true rfl, Nat.le_of_ble_eq_true rfl⟩) hK hP hD hS hA [0, 1] [] [0, 1] rfl (by decide) rfl (by decide) (by decide) rfl (by decide) rfl rfl rfl hl.1 rfl (Nat.le_of_ble_eq_true rfl) dX12_answer_2 ⟨Nat.zero_le _, Nat.zero_le _⟩ (fun H locs hP hD hS => ?_)
  refine lv_istore_n (lv' := [(3, .int r1.1), (0, .ref a0), (1, .int p1), (2, .int p2)]) hx hb dX12_answer_5 rfl hl (by decide) rfl (fun ls hl => ?_)
  refine lv_iconst (v := 0) hx hb dX12_answer_6 (by decide) ?_
  refine lv_istore (lv' := [(4, .int (0 : Int32)), (3, .int r1.1), (0, .ref a0), (1, .int p1), (2, .int p2)]) hx hb dX12_answer_7 hl (by decide) rfl (fun ls hl => ?_)
  refine lv_iconst (v := 0) hx hb dX12_answer_9 (by decide) ?_
  refine lv_istore (lv' := [(5, .int (0 : Int32)), (4, .int (0 : Int32)), (3, .int r1.1), (0, .ref a0), (1, .int p1), (2, .int p2)]) hx hb dX12_answer_10 hl (by decide) rfl (fun ls hl => ?_)
  exact k12 N r1.1 (0 : Int32) (0 : Int32) r1.2 H locs ls hf hP hD hS (lv_sub hl [3, 4, 2, 1, 0] rfl)
def fX12_turn (N : Nat) (v0_turns : Int32) (g0_all : Nat → Int32) (g0_turnWord : Nat → Int32) (g0_turnFrom : Nat → Int32) (p1 : Int32) (p2 : Int32) : Option (Int32 × Int32 × (Nat → Int32) × (Nat → Int32)) :=
  Option.bind (fX12_laysTurns N v0_turns g0_all g0_turnWord g0_turnFrom (0 : Int32)) fun r1 =>
  Option.bind (fX12_isIn p1 (0 : Int32) (r1.1 - (1 : Int32))) fun r2 =>
  if r2 = (0 : Int32) then
    some ((-1 : Int32), r1.1, r1.2.1, r1.2.2)
  else
    if p1 < 0 ∨ 320 ≤ (p1).toNatClampNeg then none else
    Option.bind (fX12_wordAt (0 : Int32) (r1.2.1 (p1).toNatClampNeg)) fun r6 =>
    if p2 = (0 : Int32) then
      if p1 < 0 ∨ 320 ≤ (p1).toNatClampNeg then none else
      some ((r1.2.1 (p1).toNatClampNeg), r1.1, r1.2.1, r1.2.2)
    else
      if p2 = (1 : Int32) then
        if p1 < 0 ∨ 320 ≤ (p1).toNatClampNeg then none else
        some ((r1.2.2 (p1).toNatClampNeg), r1.1, r1.2.1, r1.2.2)
      else
        if r6 < 0 ∨ 5228 ≤ (r6).toNatClampNeg then none else
        Option.bind (fX12_isIn (p2 - (2 : Int32)) (0 : Int32) (g0_all (r6).toNatClampNeg)) fun r10 =>
        if r10 = (0 : Int32) then
          some ((-1 : Int32), r1.1, r1.2.1, r1.2.2)
        else
          if p1 < 0 ∨ 320 ≤ (p1).toNatClampNeg then none else
          Option.bind (fX12_signAt g0_all r6 (r1.2.2 (p1).toNatClampNeg) (p2 - (2 : Int32))) fun r14 =>
          some (r14, r1.1, r1.2.1, r1.2.2)
set_option maxHeartbeats 4000000 in
set_option maxRecDepth 100000 in
theorem mX12_turn (l : Launch) (D : zG) (a0 : Nat) (a0_all : Nat) (a0_tape : Nat) (a0_isImage : Nat) (a0_turnWord : Nat) (a0_turnFrom : Nat) (a0_pieceSign : Nat) (a0_pieceFrom : Nat) (a0_runFrom : Nat) (a0_runLong : Nat) (a0_runPiece : Nat) (a0_alike : Nat) (a0_stood : Nat) (sz : Nat)  (v0_taped : Int32) (v0_faultKind : Int32) (v0_faultPlace : Int32) (v0_undos : Int32) (v0_turns : Int32) (v0_pieces : Int32) (v0_signs : Int32) (v0_runs : Int32) (g0_all : Nat → Int32) (g0_turnWord : Nat → Int32) (g0_turnFrom : Nat → Int32) (p1 : Int32) (p2 : Int32) (N : Nat) (res : Int32 × Int32 × (Nat → Int32) × (Nat → Int32)) (hf : fX12_turn N v0_turns g0_all g0_turnWord g0_turnFrom p1 p2 = some res) : Met l yX12_turn wsX12_turn ({ frames := 4, cells := 0, slots := 0, locals := 98 } : Room) (va_Pc [.ref a0, .int p1, .int p2] (zW D sz [(a0, .inr (9, [.ref a0_all, .ref a0_tape, .ref a0_isImage, .int v0_taped, .int v0_faultKind, .int v0_faultPlace, .int v0_undos, .ref a0_turnWord, .ref a0_turnFrom, .int v0_turns, .ref a0_pieceSign, .ref a0_pieceFrom, .int v0_pieces, .int v0_signs, .ref a0_runFrom, .ref a0_runLong, .ref a0_runPiece, .int v0_runs, .ref a0_alike, .ref a0_stood])), (a0_all, .inl (D.2 1, 5228, .inl g0_all)), (a0_turnWord, .inl (D.2 1, 320, .inl g0_turnWord)), (a0_turnFrom, .inl (D.2 1, 320, .inl g0_turnFrom))])) (va_Qi (fun r (_ : Unit) => r = res.1) (fun _ => zB D (va_A [(a0, .inr (9, [.ref a0_all, .ref a0_tape, .ref a0_isImage, .int v0_taped, .int v0_faultKind, .int v0_faultPlace, .int v0_undos, .ref a0_turnWord, .ref a0_turnFrom, .int v0_turns, .ref a0_pieceSign, .ref a0_pieceFrom, .int v0_pieces, .int v0_signs, .ref a0_runFrom, .ref a0_runLong, .ref a0_runPiece, .int v0_runs, .ref a0_alike, .ref a0_stood])), (a0_all, .inl (D.2 1, 5228, .inl g0_all)), (a0_turnWord, .inl (D.2 1, 320, .inl g0_turnWord)), (a0_turnFrom, .inl (D.2 1, 320, .inl g0_turnFrom))] sz) [(a0, .inr (9, [.ref a0_all, .ref a0_tape, .ref a0_isImage, .int v0_taped, .int v0_faultKind, .int v0_faultPlace, .int v0_undos, .ref a0_turnWord, .ref a0_turnFrom, .int res.2.1, .ref a0_pieceSign, .ref a0_pieceFrom, .int v0_pieces, .int v0_signs, .ref a0_runFrom, .ref a0_runLong, .ref a0_runPiece, .int v0_runs, .ref a0_alike, .ref a0_stood])), (a0_all, .inl (D.2 1, 5228, .inl g0_all)), (a0_turnWord, .inl (D.2 1, 320, .inl res.2.2.1)), (a0_turnFrom, .inl (D.2 1, 320, .inl res.2.2.2))]) (va_A [(a0, .inr (9, [.ref a0_all, .ref a0_tape, .ref a0_isImage, .int v0_taped, .int v0_faultKind, .int v0_faultPlace, .int v0_undos, .ref a0_turnWord, .ref a0_turnFrom, .int v0_turns, .ref a0_pieceSign, .ref a0_pieceFrom, .int v0_pieces, .int v0_signs, .ref a0_runFrom, .ref a0_runLong, .ref a0_runPiece, .int v0_runs, .ref a0_alike, .ref a0_stood])), (a0_all, .inl (D.2 1, 5228, .inl g0_all)), (a0_turnWord, .inl (D.2 1, 320, .inl g0_turnWord)), (a0_turnFrom, .inl (D.2 1, 320, .inl g0_turnFrom))] sz)) 0 0 (va_A [(a0, .inr (9, [.ref a0_all, .ref a0_tape, .ref a0_isImage, .int v0_taped, .int v0_faultKind, .int v0_faultPlace, .int v0_undos, .ref a0_turnWord, .ref a0_turnFrom, .int v0_turns, .ref a0_pieceSign, .ref a0_pieceFrom, .int v0_pieces, .int v0_signs, .ref a0_runFrom, .ref a0_runLong, .ref a0_runPiece, .int v0_runs, .ref a0_alike, .ref a0_stood])), (a0_all, .inl (D.2 1, 5228, .inl g0_all)), (a0_turnWord, .inl (D.2 1, 320, .inl g0_turnWord)), (a0_turnFrom, .inl (D.2 1, 320, .inl g0_turnFrom))] sz) := by
  refine Met.ofW (cc := cX12_turn) (maxL := 4) (ret := (some .int)) (by decide) rfl ?_
  intro p e s m args below meth c s₁ B hml hv
  obtain ⟨rfl, hsz, hP, hK, hD0⟩ := hv
  have hx := B.exec
  have hb := B.bytes
  have hr := B.returns
  have hts := atoms_spec (ws := wsX12_turn) B.pre
  have hown : s.vm.findClass RX12 = some m.cls := findClass_of_methodNamed B.named
  have hlocks := B.notSynchronized
  subst hsz
  have hD := hD0.self (sz := s.heap.size)
  generalize hAe : va_A [(a0, .inr (9, [.ref a0_all, .ref a0_tape, .ref a0_isImage, .int v0_taped, .int v0_faultKind, .int v0_faultPlace, .int v0_undos, .ref a0_turnWord, .ref a0_turnFrom, .int v0_turns, .ref a0_pieceSign, .ref a0_pieceFrom, .int v0_pieces, .int v0_signs, .ref a0_runFrom, .ref a0_runLong, .ref a0_runPiece, .int v0_runs, .ref a0_alike, .ref a0_stood])), (a0_all, .inl (D.2 1, 5228, .inl g0_all)), (a0_turnWord, .inl (D.2 1, 320, .inl g0_turnWord)), (a0_turnFrom, .inl (D.2 1, 320, .inl g0_turnFrom))] s.heap.size = A at hD ⊢
  have hA : ∀ q : Nat, s.heap.size ≤ q → A q := fun q h => by rw [← hAe]; exact Or.inr h
  have l87 := zat hts 1 (w := .fieldLink RX12 87 "TurnedWordsModel" "turns" "I") rfl
  have l24 := zat hts 2 (w := .fieldLink RX12 24 "TurnedWordsModel" "turnWord" "[I") rfl
  have l7 := zat hts 4 (w := .fieldLink RX12 7 "TurnedWordsModel" "all" "[I") rfl
  have l27 := zat hts 3 (w := .fieldLink RX12 27 "TurnedWordsModel" "turnFrom" "[I") rfl
  have hwX12 : ∀ w ∈ u_ws RX12 TX12 20, w ∈ wsX12_turn := fun w h => List.mem_cons_of_mem _ (List.mem_append_right _ h)
  have hl := lv_entry ([.ref a0, .int p1, .int p2]) (n := 4) (Nat.le_of_ble_eq_true rfl)
  rw [lg_entry_eq]
  generalize (lg_sl ([.ref a0, .int p1, .int p2]) ++ List.replicate (4 - (lg_sl ([.ref a0, .int p1, .int p2])).length) Slot.unset).toArray = ls at hl ⊢
  have hl : lv_has ls 4 [(0, .ref a0), (1, .int p1), (2, .int p2)] := hl
  refine zStart (A := A) hP (fun Q0 H locs hQ hP hS => ?_)
  unfold fX12_turn at hf
  refine lv_aload_n hx hb dX12_turn_0 rfl (lv_at hl 0 rfl) ?_
  refine lv_iconst (v := 0) hx hb dX12_turn_1 (by decide) ?_
  obtain ⟨r1, hr1, hf⟩ := bd hf
  refine zVv (As := [.int (0 : Int32)]) (rest := []) (ci := 9) (q0 := 0) (wn := [(a0, .inr (9, [.ref a0_all, .ref a0_tape, .ref a0_isImage, .int v0_taped, .int v0_faultKind, .int v0_faultPlace, .int v0_undos, .ref a0_turnWord, .ref a0_turnFrom, .int r1.1, .ref a0_pieceSign, .ref a0_pieceFrom, .int v0_pieces, .int v0_signs, .ref a0_runFrom, .ref a0_runLong, .ref a0_runPiece, .int v0_runs, .ref a0_alike, .ref a0_stood])), (a0_all, .inl (D.2 1, 5228, .inl g0_all)), (a0_turnWord, .inl (D.2 1, 320, .inl r1.2.1)), (a0_turnFrom, .inl (D.2 1, 320, .inl r1.2.2))]) ⟨hx, hb, hml, hown, hts⟩ (mX12_laysTurns l D a0 a0_all a0_tape a0_isImage a0_turnWord a0_turnFrom a0_pieceSign a0_pieceFrom a0_runFrom a0_runLong a0_runPiece a0_alike a0_stood H.size v0_taped v0_faultKind v0_faultPlace v0_undos v0_turns v0_pieces v0_signs v0_runs g0_all g0_turnWord g0_turnFrom (0 : Int32) N r1 hr1) (cwV 1 hts gX12_turn_X12_laysTurns rfl rfl rfl (by decide +kernel) ⟨Nat.le_of_ble_eq_true rfl, Nat.le_of_ble_eq_true rfl⟩) hK hP hD hS hA [0, 1, 2, 3] [] [0, 1, 2, 3] rfl (by decide) rfl (by decide) (by decide) rfl (by decide) rfl rfl rfl hl.1 rfl (Nat.le_of_ble_eq_true rfl) dX12_turn_2 ⟨Nat.zero_le _, Nat.zero_le _⟩ (fun H locs hP hD hS => ?_)
  refine lv_iload_n hx hb dX12_turn_5 rfl (lv_at hl 1 rfl) ?_
  refine lv_iconst (v := 0) hx hb dX12_turn_6 (by decide) ?_
  refine lv_aload_n hx hb dX12_turn_7 rfl (lv_at hl 0 rfl) ?_
  refine va_get (D := D.1) (ci := 9) (v := .int r1.1) (C := RX12) (T := TX12) (N := 20) hx hb hts hwX12 hown hK.1 hP 0 rfl rfl 9 (by decide) l87 (fun _ h9 => h9) rfl dX12_turn_8 ?_
  refine lv_iconst (v := 1) hx hb dX12_turn_11 (by decide) ?_
  refine lv_isub hx hb dX12_turn_12 ?_
  obtain ⟨r2, hr2, hf⟩ := bd hf
  refine zSz (As := [.int p1, .int (0 : Int32), .int (r1.1 - (1 : Int32))]) (rest := []) (wn := [(a0, .inr (9, [.ref a0_all, .ref a0_tape, .ref a0_isImage, .int v0_taped, .int v0_faultKind, .int v0_faultPlace, .int v0_undos, .ref a0_turnWord, .ref a0_turnFrom, .int r1.1, .ref a0_pieceSign, .ref a0_pieceFrom, .int v0_pieces, .int v0_signs, .ref a0_runFrom, .ref a0_runLong, .ref a0_runPiece, .int v0_runs, .ref a0_alike, .ref a0_stood])), (a0_all, .inl (D.2 1, 5228, .inl g0_all)), (a0_turnWord, .inl (D.2 1, 320, .inl r1.2.1)), (a0_turnFrom, .inl (D.2 1, 320, .inl r1.2.2))]) ⟨hx, hb, hml, hown, hts⟩ (mX12_isIn l D H.size p1 (0 : Int32) (r1.1 - (1 : Int32)) r2 hr2) (va_cwS 3 hts gX12_turn_X12_isIn rfl rfl rfl (by decide +kernel) ⟨Nat.le_of_ble_eq_true rfl, Nat.le_of_ble_eq_true rfl⟩) hK hP hD hS hA [] [0, 1, 2, 3] [0, 1, 2, 3] rfl (by decide) rfl (by decide) (by decide) rfl (by decide) rfl hl.1 rfl (Nat.le_of_ble_eq_true rfl) dX12_turn_13 ⟨Nat.zero_le _, Nat.zero_le _⟩ (fun H locs hb_3 hP hD hS => ?_)
  refine lv_if_ne (tgt := 21) hx hb dX12_turn_16 (by decide) (fun c_4 => ?_) (fun c_4 => ?_)
  · replace hf := im c_4 hf
    refine lv_iconst (v := 0) hx hb dX12_turn_21 (by decide) ?_
    refine lv_aload_n hx hb dX12_turn_22 rfl (lv_at hl 0 rfl) ?_
    refine va_get (D := D.1) (ci := 9) (v := .ref a0_turnWord) (C := RX12) (T := TX12) (N := 20) hx hb hts hwX12 hown hK.1 hP 0 rfl rfl 7 (by decide) l24 (fun _ h9 => h9) rfl dX12_turn_23 ?_
    refine lv_iload_n hx hb dX12_turn_26 rfl (lv_at hl 1 rfl) ?_
    obtain ⟨h_5, hf⟩ := gd hf
    refine va_iald hx hb hK.1 hP 2 1 rfl rfl h_5 dX12_turn_27 ?_
    obtain ⟨r6, hr6, hf⟩ := bd hf
    refine zSi (As := [.int (0 : Int32), .int (r1.2.1 (p1).toNatClampNeg)]) (rest := []) (wn := [(a0, .inr (9, [.ref a0_all, .ref a0_tape, .ref a0_isImage, .int v0_taped, .int v0_faultKind, .int v0_faultPlace, .int v0_undos, .ref a0_turnWord, .ref a0_turnFrom, .int r1.1, .ref a0_pieceSign, .ref a0_pieceFrom, .int v0_pieces, .int v0_signs, .ref a0_runFrom, .ref a0_runLong, .ref a0_runPiece, .int v0_runs, .ref a0_alike, .ref a0_stood])), (a0_all, .inl (D.2 1, 5228, .inl g0_all)), (a0_turnWord, .inl (D.2 1, 320, .inl r1.2.1)), (a0_turnFrom, .inl (D.2 1, 320, .inl r1.2.2))]) ⟨hx, hb, hml, hown, hts⟩ (mX12_wordAt l D H.size (0 : Int32) (r1.2.1 (p1).toNatClampNeg) r6 hr6) (va_cwS 2 hts gX12_turn_X12_wordAt rfl rfl rfl (by decide +kernel) ⟨Nat.le_of_ble_eq_true rfl, Nat.le_of_ble_eq_true rfl⟩) hK hP hD hS hA [] [0, 1, 2, 3] [0, 1, 2, 3] rfl (by decide) rfl (by decide) (by decide) rfl (by decide) rfl hl.1 rfl (Nat.le_of_ble_eq_true rfl) dX12_turn_28 ⟨Nat.zero_le _, Nat.zero_le _⟩ (fun H locs hP hD hS => ?_)
    refine lv_istore_n (lv' := [(3, .int r6), (0, .ref a0), (1, .int p1), (2, .int p2)]) hx hb dX12_turn_31 rfl hl (by decide) rfl (fun ls hl => ?_)
    refine lv_iload_n hx hb dX12_turn_32 rfl (lv_at hl 3 rfl) ?_
    refine lv_if_ne (tgt := 43) hx hb dX12_turn_33 (by decide) (fun c_7 => ?_) (fun c_7 => ?_)
    · replace hf := im c_7 hf
      refine lv_iload_n hx hb dX12_turn_43 rfl (lv_at hl 3 rfl) ?_
      refine lv_iconst (v := 1) hx hb dX12_turn_44 (by decide) ?_
      refine lv_icmp_ne (tgt := 57) hx hb dX12_turn_45 (by decide) (fun c_8 => ?_) (fun c_8 => ?_)
      · replace hf := im c_8 hf
        refine lv_iload_n hx hb dX12_turn_57 rfl (lv_at hl 3 rfl) ?_
        refine lv_iconst (v := 2) hx hb dX12_turn_58 (by decide) ?_
        refine lv_isub hx hb dX12_turn_59 ?_
        refine lv_iconst (v := 0) hx hb dX12_turn_60 (by decide) ?_
        refine lv_aload_n hx hb dX12_turn_61 rfl (lv_at hl 1 rfl) ?_
        refine va_get (D := D.1) (ci := 9) (v := .ref a0_all) (C := RX12) (T := TX12) (N := 20) hx hb hts hwX12 hown hK.1 hP 0 rfl rfl 0 (by decide) l7 (fun _ h9 => h9) rfl dX12_turn_62 ?_
        refine lv_iload_n hx hb dX12_turn_65 rfl (lv_at hl 0 rfl) ?_
        obtain ⟨h_9, hf⟩ := gd hf
        refine va_iald hx hb hK.1 hP 1 1 rfl rfl h_9 dX12_turn_66 ?_
        obtain ⟨r10, hr10, hf⟩ := bd hf
        refine zSz (As := [.int (p2 - (2 : Int32)), .int (0 : Int32), .int (g0_all (r6).toNatClampNeg)]) (rest := []) (wn := [(a0, .inr (9, [.ref a0_all, .ref a0_tape, .ref a0_isImage, .int v0_taped, .int v0_faultKind, .int v0_faultPlace, .int v0_undos, .ref a0_turnWord, .ref a0_turnFrom, .int r1.1, .ref a0_pieceSign, .ref a0_pieceFrom, .int v0_pieces, .int v0_signs, .ref a0_runFrom, .ref a0_runLong, .ref a0_runPiece, .int v0_runs, .ref a0_alike, .ref a0_stood])), (a0_all, .inl (D.2 1, 5228, .inl g0_all)), (a0_turnWord, .inl (D.2 1, 320, .inl r1.2.1)), (a0_turnFrom, .inl (D.2 1, 320, .inl r1.2.2))]) ⟨hx, hb, hml, hown, hts⟩ (mX12_isIn l D H.size (p2 - (2 : Int32)) (0 : Int32) (g0_all (r6).toNatClampNeg) r10 hr10) (va_cwS 3 hts gX12_turn_X12_isIn rfl rfl rfl (by decide +kernel) ⟨Nat.le_of_ble_eq_true rfl, Nat.le_of_ble_eq_true rfl⟩) hK hP hD hS hA [] [0, 1, 2, 3] [0, 1, 2, 3] rfl (by decide) rfl (by decide) (by decide) rfl (by decide) rfl hl.1 rfl (Nat.le_of_ble_eq_true rfl) dX12_turn_67 ⟨Nat.zero_le _, Nat.zero_le _⟩ (fun H locs hb_11 hP hD hS => ?_)
        refine lv_if_eq (tgt := 90) hx hb dX12_turn_70 (by decide) (fun c_12 => ?_) (fun c_12 => ?_)
        · replace hf := ip c_12 hf
          refine lv_iconst (v := -1) hx hb dX12_turn_90 (by decide) ?_
          have he := Option.some.inj hf
          rw [hQ]
          exact W.iret (v := (-1 : Int32)) hx hb hr (fun t ht hW => by rw [← he]; exact ⟨⟨(-1 : Int32), (), rfl, rfl, by rw [ht]; exact hP, hD⟩, hS.F ht⟩) hS.2.2 dX12_turn_91
        · replace hf := im c_12 hf
          refine lv_aload_n hx hb dX12_turn_73 rfl (lv_at hl 1 rfl) ?_
          refine lv_iload_n hx hb dX12_turn_74 rfl (lv_at hl 0 rfl) ?_
          refine lv_aload_n hx hb dX12_turn_75 rfl (lv_at hl 1 rfl) ?_
          refine va_get (D := D.1) (ci := 9) (v := .ref a0_turnFrom) (C := RX12) (T := TX12) (N := 20) hx hb hts hwX12 hown hK.1 hP 0 rfl rfl 8 (by decide) l27 (fun _ h9 => h9) rfl dX12_turn_76 ?_
          refine lv_iload_n hx hb dX12_turn_79 rfl (lv_at hl 2 rfl) ?_
          obtain ⟨h_13, hf⟩ := gd hf
          refine va_iald hx hb hK.1 hP 3 1 rfl rfl h_13 dX12_turn_80 ?_
          refine lv_iload_n hx hb dX12_turn_81 rfl (lv_at hl 3 rfl) ?_
          refine lv_iconst (v := 2) hx hb dX12_turn_82 (by decide) ?_
          refine lv_isub hx hb dX12_turn_83 ?_
          obtain ⟨r14, hr14, hf⟩ := bd hf
          refine zVi (As := [.int r6, .int (r1.2.2 (p1).toNatClampNeg), .int (p2 - (2 : Int32))]) (rest := []) (ci := 9) (q0 := 0) (wn := [(a0, .inr (9, [.ref a0_all, .ref a0_tape, .ref a0_isImage, .int v0_taped, .int v0_faultKind, .int v0_faultPlace, .int v0_undos, .ref a0_turnWord, .ref a0_turnFrom, .int r1.1, .ref a0_pieceSign, .ref a0_pieceFrom, .int v0_pieces, .int v0_signs, .ref a0_runFrom, .ref a0_runLong, .ref a0_runPiece, .int v0_runs, .ref a0_alike, .ref a0_stood])), (a0_all, .inl (D.2 1, 5228, .inl g0_all)), (a0_turnWord, .inl (D.2 1, 320, .inl r1.2.1)), (a0_turnFrom, .inl (D.2 1, 320, .inl r1.2.2))]) ⟨hx, hb, hml, hown, hts⟩ (mX12_signAt l D a0 a0_all a0_tape a0_isImage a0_turnWord a0_turnFrom a0_pieceSign a0_pieceFrom a0_runFrom a0_runLong a0_runPiece a0_alike a0_stood H.size v0_taped v0_faultKind v0_faultPlace v0_undos r1.1 v0_pieces v0_signs v0_runs g0_all r6 (r1.2.2 (p1).toNatClampNeg) (p2 - (2 : Int32)) r14 hr14) (cwV 3 hts gX12_turn_X12_signAt rfl rfl rfl (by decide +kernel) ⟨Nat.le_of_ble_eq_true rfl, Nat.le_of_ble_eq_true rfl⟩) hK hP hD hS hA [0, 1] [2, 3] [2, 3, 0, 1] rfl (by decide) rfl (by decide) (by decide) rfl (by decide) rfl rfl rfl hl.1 rfl (Nat.le_of_ble_eq_true rfl) dX12_turn_84 ⟨Nat.zero_le _, Nat.zero_le _⟩ (fun H locs hP hD hS => ?_)
          refine lv_goto (tgt := 91) hx hb dX12_turn_87 (by decide) ?_
          have he := Option.some.inj hf
          rw [hQ]
          exact W.iret (v := r14) hx hb hr (fun t ht hW => by rw [← he]; exact ⟨⟨r14, (), rfl, rfl, by rw [ht]; exact hP, hD⟩, hS.F ht⟩) hS.2.2 dX12_turn_91
      · replace hf := ip c_8 hf
        refine lv_aload_n hx hb dX12_turn_48 rfl (lv_at hl 1 rfl) ?_
        refine va_get (D := D.1) (ci := 9) (v := .ref a0_turnFrom) (C := RX12) (T := TX12) (N := 20) hx hb hts hwX12 hown hK.1 hP 0 rfl rfl 8 (by decide) l27 (fun _ h9 => h9) rfl dX12_turn_49 ?_
        refine lv_iload_n hx hb dX12_turn_52 rfl (lv_at hl 2 rfl) ?_
        obtain ⟨h_15, hf⟩ := gd hf
        refine va_iald hx hb hK.1 hP 3 1 rfl rfl h_15 dX12_turn_53 ?_
        refine lv_goto (tgt := 91) hx hb dX12_turn_54 (by decide) ?_
        have he := Option.some.inj hf
        rw [hQ]
        exact W.iret (v := (r1.2.2 (p1).toNatClampNeg)) hx hb hr (fun t ht hW => by rw [← he]; exact ⟨⟨(r1.2.2 (p1).toNatClampNeg), (), rfl, rfl, by rw [ht]; exact hP, hD⟩, hS.F ht⟩) hS.2.2 dX12_turn_91
    · replace hf := ip c_7 hf
      refine lv_aload_n hx hb dX12_turn_36 rfl (lv_at hl 1 rfl) ?_
      refine va_get (D := D.1) (ci := 9) (v := .ref a0_turnWord) (C := RX12) (T := TX12) (N := 20) hx hb hts hwX12 hown hK.1 hP 0 rfl rfl 7 (by decide) l24 (fun _ h9 => h9) rfl dX12_turn_37 ?_
      refine lv_iload_n hx hb dX12_turn_40 rfl (lv_at hl 2 rfl) ?_
      obtain ⟨h_16, hf⟩ := gd hf
      refine va_iald hx hb hK.1 hP 2 1 rfl rfl h_16 dX12_turn_41 ?_
      have he := Option.some.inj hf
      rw [hQ]
      exact W.iret (v := (r1.2.1 (p1).toNatClampNeg)) hx hb hr (fun t ht hW => by rw [← he]; exact ⟨⟨(r1.2.1 (p1).toNatClampNeg), (), rfl, rfl, by rw [ht]; exact hP, hD⟩, hS.F ht⟩) hS.2.2 dX12_turn_42
  · replace hf := ip c_4 hf
    refine lv_iconst (v := -1) hx hb dX12_turn_19 (by decide) ?_
    have he := Option.some.inj hf
    rw [hQ]
    exact W.iret (v := (-1 : Int32)) hx hb hr (fun t ht hW => by rw [← he]; exact ⟨⟨(-1 : Int32), (), rfl, rfl, by rw [ht]; exact hP, hD⟩, hS.F ht⟩) hS.2.2 dX12_turn_20
def fX12_run_113 (N : Nat) (g0_all : Nat → Int32) (p1 : Int32) (p2 : Int32) : Nat → Int32 → Int32 → Int32 → Int32 → Int32 → Int32 → (Nat → Int32) → (Nat → Int32) → (Nat → Int32) → (Nat → Int32) → (Nat → Int32) → (Nat → Int32) → (Nat → Int32) → Option (Int32 × Int32 × Int32 × Int32 × Int32 × (Nat → Int32) × (Nat → Int32) × (Nat → Int32) × (Nat → Int32) × (Nat → Int32) × (Nat → Int32) × (Nat → Int32))
  | 0, _, _, _, _, _, _, _, _, _, _, _, _, _ => none
  | K + 1, x3, x4, v0_turns, v0_pieces, v0_signs, v0_runs, g0_turnWord, g0_turnFrom, g0_pieceSign, g0_pieceFrom, g0_runFrom, g0_runLong, g0_runPiece =>
    if (0 : Int32) < 0 ∨ 5228 ≤ ((0 : Int32)).toNatClampNeg then none else
    if (g0_all ((0 : Int32)).toNatClampNeg) ≤ x4 then
      some (x3, v0_turns, v0_pieces, v0_signs, v0_runs, g0_turnWord, g0_turnFrom, g0_pieceSign, g0_pieceFrom, g0_runFrom, g0_runLong, g0_runPiece)
    else
      Option.bind (fX12_isOf N v0_turns g0_all g0_turnWord g0_turnFrom g0_pieceSign g0_runFrom g0_runLong x4 p1) fun r26 =>
      if r26 = (0 : Int32) then
        (fX12_run_113 N g0_all p1 p2 K) (x3 + (0 : Int32)) (x4 + (1 : Int32)) v0_turns v0_pieces v0_signs v0_runs g0_turnWord g0_turnFrom g0_pieceSign g0_pieceFrom g0_runFrom g0_runLong g0_runPiece
      else
        (fX12_run_113 N g0_all p1 p2 K) (x3 + (1 : Int32)) (x4 + (1 : Int32)) v0_turns v0_pieces v0_signs v0_runs g0_turnWord g0_turnFrom g0_pieceSign g0_pieceFrom g0_runFrom g0_runLong g0_runPiece
def fX12_run_73 (N : Nat) (g0_all : Nat → Int32) (p1 : Int32) (p2 : Int32) : Nat → Int32 → Int32 → Int32 → Int32 → Int32 → (Nat → Int32) → (Nat → Int32) → (Nat → Int32) → (Nat → Int32) → (Nat → Int32) → (Nat → Int32) → (Nat → Int32) → Option (Int32 × Int32 × Int32 × Int32 × Int32 × (Nat → Int32) × (Nat → Int32) × (Nat → Int32) × (Nat → Int32) × (Nat → Int32) × (Nat → Int32) × (Nat → Int32))
  | 0, _, _, _, _, _, _, _, _, _, _, _, _ => none
  | K + 1, x4, v0_turns, v0_pieces, v0_signs, v0_runs, g0_turnWord, g0_turnFrom, g0_pieceSign, g0_pieceFrom, g0_runFrom, g0_runLong, g0_runPiece =>
    if v0_turns ≤ x4 then
      some ((-1 : Int32), v0_turns, v0_pieces, v0_signs, v0_runs, g0_turnWord, g0_turnFrom, g0_pieceSign, g0_pieceFrom, g0_runFrom, g0_runLong, g0_runPiece)
    else
      Option.bind (fX12_begins N g0_all g0_turnWord g0_turnFrom g0_pieceSign g0_runFrom g0_runLong (0 : Int32) x4 p1) fun r21 =>
      if r21 = (0 : Int32) then
        (fX12_run_73 N g0_all p1 p2 K) (x4 + (1 : Int32)) v0_turns v0_pieces v0_signs v0_runs g0_turnWord g0_turnFrom g0_pieceSign g0_pieceFrom g0_runFrom g0_runLong g0_runPiece
      else
        some (x4, v0_turns, v0_pieces, v0_signs, v0_runs, g0_turnWord, g0_turnFrom, g0_pieceSign, g0_pieceFrom, g0_runFrom, g0_runLong, g0_runPiece)
def fX12_run (N : Nat) (v0_turns : Int32) (v0_pieces : Int32) (v0_signs : Int32) (v0_runs : Int32) (g0_all : Nat → Int32) (g0_turnWord : Nat → Int32) (g0_turnFrom : Nat → Int32) (g0_pieceSign : Nat → Int32) (g0_pieceFrom : Nat → Int32) (g0_runFrom : Nat → Int32) (g0_runLong : Nat → Int32) (g0_runPiece : Nat → Int32) (p1 : Int32) (p2 : Int32) : Option (Int32 × Int32 × Int32 × Int32 × Int32 × (Nat → Int32) × (Nat → Int32) × (Nat → Int32) × (Nat → Int32) × (Nat → Int32) × (Nat → Int32) × (Nat → Int32)) :=
  Option.bind (fX12_laysAll N v0_turns v0_pieces v0_signs v0_runs g0_all g0_turnWord g0_turnFrom g0_pieceSign g0_pieceFrom g0_runFrom g0_runLong g0_runPiece) fun r1 =>
  Option.bind (fX12_isIn p1 (0 : Int32) (r1.2.2.2.1 - (1 : Int32))) fun r2 =>
  if r2 = (0 : Int32) then
    some ((-1 : Int32), r1.1, r1.2.1, r1.2.2.1, r1.2.2.2.1, r1.2.2.2.2.1, r1.2.2.2.2.2.1, r1.2.2.2.2.2.2.1, r1.2.2.2.2.2.2.2.1, r1.2.2.2.2.2.2.2.2.1, r1.2.2.2.2.2.2.2.2.2.1, r1.2.2.2.2.2.2.2.2.2.2)
  else
    if (p2).toInt < 0 ∨ 4 < (p2).toInt then
      if p1 < 0 ∨ 40 ≤ (p1).toNatClampNeg then none else
      Option.bind (fX12_isIn (p2 - (5 : Int32)) (0 : Int32) ((r1.2.2.2.2.2.2.2.2.2.1 (p1).toNatClampNeg) - (1 : Int32))) fun r7 =>
      if r7 = (0 : Int32) then
        some ((-1 : Int32), r1.1, r1.2.1, r1.2.2.1, r1.2.2.2.1, r1.2.2.2.2.1, r1.2.2.2.2.2.1, r1.2.2.2.2.2.2.1, r1.2.2.2.2.2.2.2.1, r1.2.2.2.2.2.2.2.2.1, r1.2.2.2.2.2.2.2.2.2.1, r1.2.2.2.2.2.2.2.2.2.2)
      else
        if p1 < 0 ∨ 40 ≤ (p1).toNatClampNeg then none else
        if (((r1.2.2.2.2.2.2.2.2.1 (p1).toNatClampNeg) + p2) - (5 : Int32)) < 0 ∨ 40 ≤ ((((r1.2.2.2.2.2.2.2.2.1 (p1).toNatClampNeg) + p2) - (5 : Int32))).toNatClampNeg then none else
        some ((r1.2.2.2.2.2.2.1 ((((r1.2.2.2.2.2.2.2.2.1 (p1).toNatClampNeg) + p2) - (5 : Int32))).toNatClampNeg), r1.1, r1.2.1, r1.2.2.1, r1.2.2.2.1, r1.2.2.2.2.1, r1.2.2.2.2.2.1, r1.2.2.2.2.2.2.1, r1.2.2.2.2.2.2.2.1, r1.2.2.2.2.2.2.2.2.1, r1.2.2.2.2.2.2.2.2.2.1, r1.2.2.2.2.2.2.2.2.2.2)
    else if p2 = 0 then
      if p1 < 0 ∨ 40 ≤ (p1).toNatClampNeg then none else
      some ((r1.2.2.2.2.2.2.2.2.2.1 (p1).toNatClampNeg), r1.1, r1.2.1, r1.2.2.1, r1.2.2.2.1, r1.2.2.2.2.1, r1.2.2.2.2.2.1, r1.2.2.2.2.2.2.1, r1.2.2.2.2.2.2.2.1, r1.2.2.2.2.2.2.2.2.1, r1.2.2.2.2.2.2.2.2.2.1, r1.2.2.2.2.2.2.2.2.2.2)
    else if p2 = 1 then
      if p1 < 0 ∨ 40 ≤ (p1).toNatClampNeg then none else
      some ((r1.2.2.2.2.2.2.2.2.2.2 (p1).toNatClampNeg), r1.1, r1.2.1, r1.2.2.1, r1.2.2.2.1, r1.2.2.2.2.1, r1.2.2.2.2.2.1, r1.2.2.2.2.2.2.1, r1.2.2.2.2.2.2.2.1, r1.2.2.2.2.2.2.2.2.1, r1.2.2.2.2.2.2.2.2.2.1, r1.2.2.2.2.2.2.2.2.2.2)
    else if p2 = 2 then
      fX12_run_73 N g0_all p1 p2 N (0 : Int32) r1.1 r1.2.1 r1.2.2.1 r1.2.2.2.1 r1.2.2.2.2.1 r1.2.2.2.2.2.1 r1.2.2.2.2.2.2.1 r1.2.2.2.2.2.2.2.1 r1.2.2.2.2.2.2.2.2.1 r1.2.2.2.2.2.2.2.2.2.1 r1.2.2.2.2.2.2.2.2.2.2
    else if p2 = 3 then
      Option.bind (fX12_rangeOf N r1.1 g0_all r1.2.2.2.2.1 r1.2.2.2.2.2.1 r1.2.2.2.2.2.2.1 r1.2.2.2.2.2.2.2.2.1 r1.2.2.2.2.2.2.2.2.2.1 p1) fun r18 =>
      some (r18, r1.1, r1.2.1, r1.2.2.1, r1.2.2.2.1, r1.2.2.2.2.1, r1.2.2.2.2.2.1, r1.2.2.2.2.2.2.1, r1.2.2.2.2.2.2.2.1, r1.2.2.2.2.2.2.2.2.1, r1.2.2.2.2.2.2.2.2.2.1, r1.2.2.2.2.2.2.2.2.2.2)
    else if p2 = 4 then
      fX12_run_113 N g0_all p1 p2 N (0 : Int32) (0 : Int32) r1.1 r1.2.1 r1.2.2.1 r1.2.2.2.1 r1.2.2.2.2.1 r1.2.2.2.2.2.1 r1.2.2.2.2.2.2.1 r1.2.2.2.2.2.2.2.1 r1.2.2.2.2.2.2.2.2.1 r1.2.2.2.2.2.2.2.2.2.1 r1.2.2.2.2.2.2.2.2.2.2
    else none
set_option maxHeartbeats 4000000 in
set_option maxRecDepth 100000 in
theorem mX12_run (l : Launch) (D : zG) (a0 : Nat) (a0_all : Nat) (a0_tape : Nat) (a0_isImage : Nat) (a0_turnWord : Nat) (a0_turnFrom : Nat) (a0_pieceSign : Nat) (a0_pieceFrom : Nat) (a0_runFrom : Nat) (a0_runLong : Nat) (a0_runPiece : Nat) (a0_alike : Nat) (a0_stood : Nat) (sz : Nat)  (v0_taped : Int32) (v0_faultKind : Int32) (v0_faultPlace : Int32) (v0_undos : Int32) (v0_turns : Int32) (v0_pieces : Int32) (v0_signs : Int32) (v0_runs : Int32) (g0_all : Nat → Int32) (g0_turnWord : Nat → Int32) (g0_turnFrom : Nat → Int32) (g0_pieceSign : Nat → Int32) (g0_pieceFrom : Nat → Int32) (g0_runFrom : Nat → Int32) (g0_runLong : Nat → Int32) (g0_runPiece : Nat → Int32) (p1 : Int32) (p2 : Int32) (N : Nat) (res : Int32 × Int32 × Int32 × Int32 × Int32 × (Nat → Int32) × (Nat → Int32) × (Nat → Int32) × (Nat → Int32) × (Nat → Int32) × (Nat → Int32) × (Nat → Int32)) (hf : fX12_run N v0_turns v0_pieces v0_signs v0_runs g0_all g0_turnWord g0_turnFrom g0_pieceSign g0_pieceFrom g0_runFrom g0_runLong g0_runPiece p1 p2 = some res) : Met l yX12_run wsX12_run ({ frames := 5, cells := 0, slots := 0, locals := 118 } : Room) (va_Pc [.ref a0, .int p1, .int p2] (zW D sz [(a0, .inr (9, [.ref a0_all, .ref a0_tape, .ref a0_isImage, .int v0_taped, .int v0_faultKind, .int v0_faultPlace, .int v0_undos, .ref a0_turnWord, .ref a0_turnFrom, .int v0_turns, .ref a0_pieceSign, .ref a0_pieceFrom, .int v0_pieces, .int v0_signs, .ref a0_runFrom, .ref a0_runLong, .ref a0_runPiece, .int v0_runs, .ref a0_alike, .ref a0_stood])), (a0_all, .inl (D.2 1, 5228, .inl g0_all)), (a0_turnWord, .inl (D.2 1, 320, .inl g0_turnWord)), (a0_turnFrom, .inl (D.2 1, 320, .inl g0_turnFrom)), (a0_pieceSign, .inl (D.2 1, 40, .inl g0_pieceSign)), (a0_pieceFrom, .inl (D.2 1, 14, .inl g0_pieceFrom)), (a0_runFrom, .inl (D.2 1, 40, .inl g0_runFrom)), (a0_runLong, .inl (D.2 1, 40, .inl g0_runLong)), (a0_runPiece, .inl (D.2 1, 40, .inl g0_runPiece))])) (va_Qi (fun r (_ : Unit) => r = res.1) (fun _ => zB D (va_A [(a0, .inr (9, [.ref a0_all, .ref a0_tape, .ref a0_isImage, .int v0_taped, .int v0_faultKind, .int v0_faultPlace, .int v0_undos, .ref a0_turnWord, .ref a0_turnFrom, .int v0_turns, .ref a0_pieceSign, .ref a0_pieceFrom, .int v0_pieces, .int v0_signs, .ref a0_runFrom, .ref a0_runLong, .ref a0_runPiece, .int v0_runs, .ref a0_alike, .ref a0_stood])), (a0_all, .inl (D.2 1, 5228, .inl g0_all)), (a0_turnWord, .inl (D.2 1, 320, .inl g0_turnWord)), (a0_turnFrom, .inl (D.2 1, 320, .inl g0_turnFrom)), (a0_pieceSign, .inl (D.2 1, 40, .inl g0_pieceSign)), (a0_pieceFrom, .inl (D.2 1, 14, .inl g0_pieceFrom)), (a0_runFrom, .inl (D.2 1, 40, .inl g0_runFrom)), (a0_runLong, .inl (D.2 1, 40, .inl g0_runLong)), (a0_runPiece, .inl (D.2 1, 40, .inl g0_runPiece))] sz) [(a0, .inr (9, [.ref a0_all, .ref a0_tape, .ref a0_isImage, .int v0_taped, .int v0_faultKind, .int v0_faultPlace, .int v0_undos, .ref a0_turnWord, .ref a0_turnFrom, .int res.2.1, .ref a0_pieceSign, .ref a0_pieceFrom, .int res.2.2.1, .int res.2.2.2.1, .ref a0_runFrom, .ref a0_runLong, .ref a0_runPiece, .int res.2.2.2.2.1, .ref a0_alike, .ref a0_stood])), (a0_all, .inl (D.2 1, 5228, .inl g0_all)), (a0_turnWord, .inl (D.2 1, 320, .inl res.2.2.2.2.2.1)), (a0_turnFrom, .inl (D.2 1, 320, .inl res.2.2.2.2.2.2.1)), (a0_pieceSign, .inl (D.2 1, 40, .inl res.2.2.2.2.2.2.2.1)), (a0_pieceFrom, .inl (D.2 1, 14, .inl res.2.2.2.2.2.2.2.2.1)), (a0_runFrom, .inl (D.2 1, 40, .inl res.2.2.2.2.2.2.2.2.2.1)), (a0_runLong, .inl (D.2 1, 40, .inl res.2.2.2.2.2.2.2.2.2.2.1)), (a0_runPiece, .inl (D.2 1, 40, .inl res.2.2.2.2.2.2.2.2.2.2.2))]) (va_A [(a0, .inr (9, [.ref a0_all, .ref a0_tape, .ref a0_isImage, .int v0_taped, .int v0_faultKind, .int v0_faultPlace, .int v0_undos, .ref a0_turnWord, .ref a0_turnFrom, .int v0_turns, .ref a0_pieceSign, .ref a0_pieceFrom, .int v0_pieces, .int v0_signs, .ref a0_runFrom, .ref a0_runLong, .ref a0_runPiece, .int v0_runs, .ref a0_alike, .ref a0_stood])), (a0_all, .inl (D.2 1, 5228, .inl g0_all)), (a0_turnWord, .inl (D.2 1, 320, .inl g0_turnWord)), (a0_turnFrom, .inl (D.2 1, 320, .inl g0_turnFrom)), (a0_pieceSign, .inl (D.2 1, 40, .inl g0_pieceSign)), (a0_pieceFrom, .inl (D.2 1, 14, .inl g0_pieceFrom)), (a0_runFrom, .inl (D.2 1, 40, .inl g0_runFrom)), (a0_runLong, .inl (D.2 1, 40, .inl g0_runLong)), (a0_runPiece, .inl (D.2 1, 40, .inl g0_runPiece))] sz)) 0 0 (va_A [(a0, .inr (9, [.ref a0_all, .ref a0_tape, .ref a0_isImage, .int v0_taped, .int v0_faultKind, .int v0_faultPlace, .int v0_undos, .ref a0_turnWord, .ref a0_turnFrom, .int v0_turns, .ref a0_pieceSign, .ref a0_pieceFrom, .int v0_pieces, .int v0_signs, .ref a0_runFrom, .ref a0_runLong, .ref a0_runPiece, .int v0_runs, .ref a0_alike, .ref a0_stood])), (a0_all, .inl (D.2 1, 5228, .inl g0_all)), (a0_turnWord, .inl (D.2 1, 320, .inl g0_turnWord)), (a0_turnFrom, .inl (D.2 1, 320, .inl g0_turnFrom)), (a0_pieceSign, .inl (D.2 1, 40, .inl g0_pieceSign)), (a0_pieceFrom, .inl (D.2 1, 14, .inl g0_pieceFrom)), (a0_runFrom, .inl (D.2 1, 40, .inl g0_runFrom)), (a0_runLong, .inl (D.2 1, 40, .inl g0_runLong)), (a0_runPiece, .inl (D.2 1, 40, .inl g0_runPiece))] sz) := by
  refine Met.ofW (cc := cX12_run) (maxL := 5) (ret := (some .int)) (by decide) rfl ?_
  intro p e s m args below meth c s₁ B hml hv
  obtain ⟨rfl, hsz, hP, hK, hD0⟩ := hv
  have hx := B.exec
  have hb := B.bytes
  have hr := B.returns
  have hts := atoms_spec (ws := wsX12_run) B.pre
  have hown : s.vm.findClass RX12 = some m.cls := findClass_of_methodNamed B.named
  have hlocks := B.notSynchronized
  subst hsz
  have hD := hD0.self (sz := s.heap.size)
  generalize hAe : va_A [(a0, .inr (9, [.ref a0_all, .ref a0_tape, .ref a0_isImage, .int v0_taped, .int v0_faultKind, .int v0_faultPlace, .int v0_undos, .ref a0_turnWord, .ref a0_turnFrom, .int v0_turns, .ref a0_pieceSign, .ref a0_pieceFrom, .int v0_pieces, .int v0_signs, .ref a0_runFrom, .ref a0_runLong, .ref a0_runPiece, .int v0_runs, .ref a0_alike, .ref a0_stood])), (a0_all, .inl (D.2 1, 5228, .inl g0_all)), (a0_turnWord, .inl (D.2 1, 320, .inl g0_turnWord)), (a0_turnFrom, .inl (D.2 1, 320, .inl g0_turnFrom)), (a0_pieceSign, .inl (D.2 1, 40, .inl g0_pieceSign)), (a0_pieceFrom, .inl (D.2 1, 14, .inl g0_pieceFrom)), (a0_runFrom, .inl (D.2 1, 40, .inl g0_runFrom)), (a0_runLong, .inl (D.2 1, 40, .inl g0_runLong)), (a0_runPiece, .inl (D.2 1, 40, .inl g0_runPiece))] s.heap.size = A at hD ⊢
  have hA : ∀ q : Nat, s.heap.size ≤ q → A q := fun q h => by rw [← hAe]; exact Or.inr h
  have l122 := zat hts 1 (w := .fieldLink RX12 122 "TurnedWordsModel" "runs" "I") rfl
  have l39 := zat hts 2 (w := .fieldLink RX12 39 "TurnedWordsModel" "runLong" "[I") rfl
  have l30 := zat hts 6 (w := .fieldLink RX12 30 "TurnedWordsModel" "pieceSign" "[I") rfl
  have l36 := zat hts 7 (w := .fieldLink RX12 36 "TurnedWordsModel" "runFrom" "[I") rfl
  have l42 := zat hts 3 (w := .fieldLink RX12 42 "TurnedWordsModel" "runPiece" "[I") rfl
  have l87 := zat hts 4 (w := .fieldLink RX12 87 "TurnedWordsModel" "turns" "I") rfl
  have l7 := zat hts 5 (w := .fieldLink RX12 7 "TurnedWordsModel" "all" "[I") rfl
  have hwX12 : ∀ w ∈ u_ws RX12 TX12 20, w ∈ wsX12_run := fun w h => List.mem_cons_of_mem _ (List.mem_append_right _ h)
  have hl := lv_entry ([.ref a0, .int p1, .int p2]) (n := 5) (Nat.le_of_ble_eq_true rfl)
  rw [lg_entry_eq]
  generalize (lg_sl ([.ref a0, .int p1, .int p2]) ++ List.replicate (5 - (lg_sl ([.ref a0, .int p1, .int p2])).length) Slot.unset).toArray = ls at hl ⊢
  have hl : lv_has ls 5 [(0, .ref a0), (1, .int p1), (2, .int p2)] := hl
  refine zStart (A := A) hP (fun Q0 H locs hQ hP hS => ?_)
  have k113 : ∀ K : Nat, ∀ (x3 : Int32) (x4 : Int32) (v0_turns : Int32) (v0_pieces : Int32) (v0_signs : Int32) (v0_runs : Int32) (g0_turnWord : Nat → Int32) (g0_turnFrom : Nat → Int32) (g0_pieceSign : Nat → Int32) (g0_pieceFrom : Nat → Int32) (g0_runFrom : Nat → Int32) (g0_runLong : Nat → Int32) (g0_runPiece : Nat → Int32) (H : Heap) (locs : List Loc) (ls : Array Slot), fX12_run_113 N g0_all p1 p2 K x3 x4 v0_turns v0_pieces v0_signs v0_runs g0_turnWord g0_turnFrom g0_pieceSign g0_pieceFrom g0_runFrom g0_runLong g0_runPiece = some res → va_P D.1 vwCl [(a0, .inr (9, [.ref a0_all, .ref a0_tape, .ref a0_isImage, .int v0_taped, .int v0_faultKind, .int v0_faultPlace, .int v0_undos, .ref a0_turnWord, .ref a0_turnFrom, .int v0_turns, .ref a0_pieceSign, .ref a0_pieceFrom, .int v0_pieces, .int v0_signs, .ref a0_runFrom, .ref a0_runLong, .ref a0_runPiece, .int v0_runs, .ref a0_alike, .ref a0_stood])), (a0_all, .inl (D.2 1, 5228, .inl g0_all)), (a0_turnWord, .inl (D.2 1, 320, .inl g0_turnWord)), (a0_turnFrom, .inl (D.2 1, 320, .inl g0_turnFrom)), (a0_pieceSign, .inl (D.2 1, 40, .inl g0_pieceSign)), (a0_pieceFrom, .inl (D.2 1, 14, .inl g0_pieceFrom)), (a0_runFrom, .inl (D.2 1, 40, .inl g0_runFrom)), (a0_runLong, .inl (D.2 1, 40, .inl g0_runLong)), (a0_runPiece, .inl (D.2 1, 40, .inl g0_runPiece))] H → va_D A [(a0, .inr (9, [.ref a0_all, .ref a0_tape, .ref a0_isImage, .int v0_taped, .int v0_faultKind, .int v0_faultPlace, .int v0_undos, .ref a0_turnWord, .ref a0_turnFrom, .int v0_turns, .ref a0_pieceSign, .ref a0_pieceFrom, .int v0_pieces, .int v0_signs, .ref a0_runFrom, .ref a0_runLong, .ref a0_runPiece, .int v0_runs, .ref a0_alike, .ref a0_stood])), (a0_all, .inl (D.2 1, 5228, .inl g0_all)), (a0_turnWord, .inl (D.2 1, 320, .inl g0_turnWord)), (a0_turnFrom, .inl (D.2 1, 320, .inl g0_turnFrom)), (a0_pieceSign, .inl (D.2 1, 40, .inl g0_pieceSign)), (a0_pieceFrom, .inl (D.2 1, 14, .inl g0_pieceFrom)), (a0_runFrom, .inl (D.2 1, 40, .inl g0_runFrom)), (a0_runLong, .inl (D.2 1, 40, .inl g0_runLong)), (a0_runPiece, .inl (D.2 1, 40, .inl g0_runPiece))] → va_S A s.heap H locs → lv_has ls 5 [(0, .ref a0), (1, .int p1), (3, .int x3), (4, .int x4)] → W p l e (headSpec wsX12_run ({ frames := 5, cells := 0, slots := 0, locals := 118 } : Room)).room s m ([.ref a0, .int p1, .int p2] : List Value).toArray below meth c H locs 0 0 Q0 (F0 m 113 ls []) := by
    intro K
    induction K with
    | zero =>
      intro x3 x4 v0_turns v0_pieces v0_signs v0_runs g0_turnWord g0_turnFrom g0_pieceSign g0_pieceFrom g0_runFrom g0_runLong g0_runPiece H locs ls hf
      rw [fX12_run_113] at hf
      cases hf
    | succ K ih =>
      intro x3 x4 v0_turns v0_pieces v0_signs v0_runs g0_turnWord g0_turnFrom g0_pieceSign g0_pieceFrom g0_runFrom g0_runLong g0_runPiece H locs ls hf hP hD hS hl
      rw [fX12_run_113] at hf
      refine lv_iload hx hb dX12_run_113 (lv_at hl 3 rfl) ?_
      refine lv_aload_n hx hb dX12_run_115 rfl (lv_at hl 0 rfl) ?_
      refine va_get (D := D.1) (ci := 9) (v := .ref a0_all) (C := RX12) (T := TX12) (N := 20) hx hb hts hwX12 hown hK.1 hP 0 rfl rfl 0 (by decide) l7 (fun _ h9 => h9) rfl dX12_run_116 ?_
      refine lv_iconst (v := 0) hx hb dX12_run_119 (by decide) ?_
      obtain ⟨h_24, hf⟩ := gd hf
      refine va_iald hx hb hK.1 hP 1 1 rfl rfl h_24 dX12_run_120 ?_
      refine lv_icmp_ge (tgt := 148) hx hb dX12_run_121 (by decide) (fun c_25 => ?_) (fun c_25 => ?_)
      · replace hf := ip c_25 hf
        refine lv_iload_n hx hb dX12_run_148 rfl (lv_at hl 2 rfl) ?_
        have he := Option.some.inj hf
        rw [hQ]
        exact W.iret (v := x3) hx hb hr (fun t ht hW => by rw [← he]; exact ⟨⟨x3, (), rfl, rfl, by rw [ht]; exact hP, hD⟩, hS.F ht⟩) hS.2.2 dX12_run_149
      · replace hf := im c_25 hf
        refine lv_iload_n hx hb dX12_run_124 rfl (lv_at hl 2 rfl) ?_
        refine lv_aload_n hx hb dX12_run_125 rfl (lv_at hl 0 rfl) ?_
        refine lv_iload hx hb dX12_run_126 (lv_at hl 3 rfl) ?_
        refine lv_iload_n hx hb dX12_run_128 rfl (lv_at hl 1 rfl) ?_
        obtain ⟨r26, hr26, hf⟩ := bd hf
        refine zVz (As := [.int x4, .int p1]) (rest := [.int x3]) (ci := 9) (q0 := 0) (wn := [(a0, .inr (9, [.ref a0_all, .ref a0_tape, .ref a0_isImage, .int v0_taped, .int v0_faultKind, .int v0_faultPlace, .int v0_undos, .ref a0_turnWord, .ref a0_turnFrom, .int v0_turns, .ref a0_pieceSign, .ref a0_pieceFrom, .int v0_pieces, .int v0_signs, .ref a0_runFrom, .ref a0_runLong, .ref a0_runPiece, .int v0_runs, .ref a0_alike, .ref a0_stood])), (a0_all, .inl (D.2 1, 5228, .inl g0_all)), (a0_turnWord, .inl (D.2 1, 320, .inl g0_turnWord)), (a0_turnFrom, .inl (D.2 1, 320, .inl g0_turnFrom)), (a0_pieceSign, .inl (D.2 1, 40, .inl g0_pieceSign)), (a0_pieceFrom, .inl (D.2 1, 14, .inl g0_pieceFrom)), (a0_runFrom, .inl (D.2 1, 40, .inl g0_runFrom)), (a0_runLong, .inl (D.2 1, 40, .inl g0_runLong)), (a0_runPiece, .inl (D.2 1, 40, .inl g0_runPiece))]) ⟨hx, hb, hml, hown, hts⟩ (mX12_isOf l D a0 a0_all a0_tape a0_isImage a0_turnWord a0_turnFrom a0_pieceSign a0_pieceFrom a0_runFrom a0_runLong a0_runPiece a0_alike a0_stood H.size v0_taped v0_faultKind v0_faultPlace v0_undos v0_turns v0_pieces v0_signs v0_runs g0_all g0_turnWord g0_turnFrom g0_pieceSign g0_runFrom g0_runLong x4 p1 N r26 hr26) (cwV 2 hts gX12_run_X12_isOf rfl rfl rfl (by decide +kernel) ⟨Nat.le_of_ble_eq_true rfl, Nat.le_of_ble_eq_true rfl⟩) hK hP hD hS hA [0, 1, 2, 3, 4, 6, 7] [5, 8] [2, 3, 4, 5, 6, 0, 7, 8, 1] rfl (by decide) rfl (by decide) (by decide) rfl (by decide) rfl rfl rfl hl.1 rfl (Nat.le_of_ble_eq_true rfl) dX12_run_129 ⟨Nat.zero_le _, Nat.zero_le _⟩ (fun H locs hb_27 hP hD hS => ?_)
        refine lv_if_eq (tgt := 139) hx hb dX12_run_132 (by decide) (fun c_28 => ?_) (fun c_28 => ?_)
        · replace hf := ip c_28 hf
          refine lv_iconst (v := 0) hx hb dX12_run_139 (by decide) ?_
          refine lv_iadd hx hb dX12_run_140 ?_
          refine lv_istore_n (lv' := [(3, .int (x3 + (0 : Int32))), (0, .ref a0), (1, .int p1), (4, .int x4)]) hx hb dX12_run_141 rfl hl (by decide) rfl (fun ls hl => ?_)
          refine lv_iinc (v := (x4 + (1 : Int32))) (lv' := [(4, .int (x4 + (1 : Int32))), (3, .int (x3 + (0 : Int32))), (0, .ref a0), (1, .int p1)]) hx hb dX12_run_142 hl (k := 3) rfl rfl (by decide) rfl (fun ls hl => ?_)
          refine lv_goto (tgt := 113) hx hb dX12_run_145 (by decide) ?_
          exact ih (x3 + (0 : Int32)) (x4 + (1 : Int32)) v0_turns v0_pieces v0_signs v0_runs g0_turnWord g0_turnFrom g0_pieceSign g0_pieceFrom g0_runFrom g0_runLong g0_runPiece H locs ls hf hP hD hS (lv_sub hl [2, 3, 1, 0] rfl)
        · replace hf := im c_28 hf
          refine lv_iconst (v := 1) hx hb dX12_run_135 (by decide) ?_
          refine lv_goto (tgt := 140) hx hb dX12_run_136 (by decide) ?_
          refine lv_iadd hx hb dX12_run_140 ?_
          refine lv_istore_n (lv' := [(3, .int (x3 + (1 : Int32))), (0, .ref a0), (1, .int p1), (4, .int x4)]) hx hb dX12_run_141 rfl hl (by decide) rfl (fun ls hl => ?_)
          refine lv_iinc (v := (x4 + (1 : Int32))) (lv' := [(4, .int (x4 + (1 : Int32))), (3, .int (x3 + (1 : Int32))), (0, .ref a0), (1, .int p1)]) hx hb dX12_run_142 hl (k := 3) rfl rfl (by decide) rfl (fun ls hl => ?_)
          refine lv_goto (tgt := 113) hx hb dX12_run_145 (by decide) ?_
          exact ih (x3 + (1 : Int32)) (x4 + (1 : Int32)) v0_turns v0_pieces v0_signs v0_runs g0_turnWord g0_turnFrom g0_pieceSign g0_pieceFrom g0_runFrom g0_runLong g0_runPiece H locs ls hf hP hD hS (lv_sub hl [2, 3, 1, 0] rfl)
  have k73 : ∀ K : Nat, ∀ (x4 : Int32) (v0_turns : Int32) (v0_pieces : Int32) (v0_signs : Int32) (v0_runs : Int32) (g0_turnWord : Nat → Int32) (g0_turnFrom : Nat → Int32) (g0_pieceSign : Nat → Int32) (g0_pieceFrom : Nat → Int32) (g0_runFrom : Nat → Int32) (g0_runLong : Nat → Int32) (g0_runPiece : Nat → Int32) (H : Heap) (locs : List Loc) (ls : Array Slot), fX12_run_73 N g0_all p1 p2 K x4 v0_turns v0_pieces v0_signs v0_runs g0_turnWord g0_turnFrom g0_pieceSign g0_pieceFrom g0_runFrom g0_runLong g0_runPiece = some res → va_P D.1 vwCl [(a0, .inr (9, [.ref a0_all, .ref a0_tape, .ref a0_isImage, .int v0_taped, .int v0_faultKind, .int v0_faultPlace, .int v0_undos, .ref a0_turnWord, .ref a0_turnFrom, .int v0_turns, .ref a0_pieceSign, .ref a0_pieceFrom, .int v0_pieces, .int v0_signs, .ref a0_runFrom, .ref a0_runLong, .ref a0_runPiece, .int v0_runs, .ref a0_alike, .ref a0_stood])), (a0_all, .inl (D.2 1, 5228, .inl g0_all)), (a0_turnWord, .inl (D.2 1, 320, .inl g0_turnWord)), (a0_turnFrom, .inl (D.2 1, 320, .inl g0_turnFrom)), (a0_pieceSign, .inl (D.2 1, 40, .inl g0_pieceSign)), (a0_pieceFrom, .inl (D.2 1, 14, .inl g0_pieceFrom)), (a0_runFrom, .inl (D.2 1, 40, .inl g0_runFrom)), (a0_runLong, .inl (D.2 1, 40, .inl g0_runLong)), (a0_runPiece, .inl (D.2 1, 40, .inl g0_runPiece))] H → va_D A [(a0, .inr (9, [.ref a0_all, .ref a0_tape, .ref a0_isImage, .int v0_taped, .int v0_faultKind, .int v0_faultPlace, .int v0_undos, .ref a0_turnWord, .ref a0_turnFrom, .int v0_turns, .ref a0_pieceSign, .ref a0_pieceFrom, .int v0_pieces, .int v0_signs, .ref a0_runFrom, .ref a0_runLong, .ref a0_runPiece, .int v0_runs, .ref a0_alike, .ref a0_stood])), (a0_all, .inl (D.2 1, 5228, .inl g0_all)), (a0_turnWord, .inl (D.2 1, 320, .inl g0_turnWord)), (a0_turnFrom, .inl (D.2 1, 320, .inl g0_turnFrom)), (a0_pieceSign, .inl (D.2 1, 40, .inl g0_pieceSign)), (a0_pieceFrom, .inl (D.2 1, 14, .inl g0_pieceFrom)), (a0_runFrom, .inl (D.2 1, 40, .inl g0_runFrom)), (a0_runLong, .inl (D.2 1, 40, .inl g0_runLong)), (a0_runPiece, .inl (D.2 1, 40, .inl g0_runPiece))] → va_S A s.heap H locs → lv_has ls 5 [(0, .ref a0), (1, .int p1), (4, .int x4)] → W p l e (headSpec wsX12_run ({ frames := 5, cells := 0, slots := 0, locals := 118 } : Room)).room s m ([.ref a0, .int p1, .int p2] : List Value).toArray below meth c H locs 0 0 Q0 (F0 m 73 ls []) := by
    intro K
    induction K with
    | zero =>
      intro x4 v0_turns v0_pieces v0_signs v0_runs g0_turnWord g0_turnFrom g0_pieceSign g0_pieceFrom g0_runFrom g0_runLong g0_runPiece H locs ls hf
      rw [fX12_run_73] at hf
      cases hf
    | succ K ih =>
      intro x4 v0_turns v0_pieces v0_signs v0_runs g0_turnWord g0_turnFrom g0_pieceSign g0_pieceFrom g0_runFrom g0_runLong g0_runPiece H locs ls hf hP hD hS hl
      rw [fX12_run_73] at hf
      refine lv_iload hx hb dX12_run_73 (lv_at hl 2 rfl) ?_
      refine lv_aload_n hx hb dX12_run_75 rfl (lv_at hl 0 rfl) ?_
      refine va_get (D := D.1) (ci := 9) (v := .int v0_turns) (C := RX12) (T := TX12) (N := 20) hx hb hts hwX12 hown hK.1 hP 0 rfl rfl 9 (by decide) l87 (fun _ h9 => h9) rfl dX12_run_76 ?_
      refine lv_icmp_ge (tgt := 102) hx hb dX12_run_79 (by decide) (fun c_20 => ?_) (fun c_20 => ?_)
      · replace hf := ip c_20 hf
        refine lv_iconst (v := -1) hx hb dX12_run_102 (by decide) ?_
        have he := Option.some.inj hf
        rw [hQ]
        exact W.iret (v := (-1 : Int32)) hx hb hr (fun t ht hW => by rw [← he]; exact ⟨⟨(-1 : Int32), (), rfl, rfl, by rw [ht]; exact hP, hD⟩, hS.F ht⟩) hS.2.2 dX12_run_103
      · replace hf := im c_20 hf
        refine lv_aload_n hx hb dX12_run_82 rfl (lv_at hl 0 rfl) ?_
        refine lv_iconst (v := 0) hx hb dX12_run_83 (by decide) ?_
        refine lv_iload hx hb dX12_run_84 (lv_at hl 2 rfl) ?_
        refine lv_iload_n hx hb dX12_run_86 rfl (lv_at hl 1 rfl) ?_
        obtain ⟨r21, hr21, hf⟩ := bd hf
        refine zVz (As := [.int (0 : Int32), .int x4, .int p1]) (rest := []) (ci := 9) (q0 := 0) (wn := [(a0, .inr (9, [.ref a0_all, .ref a0_tape, .ref a0_isImage, .int v0_taped, .int v0_faultKind, .int v0_faultPlace, .int v0_undos, .ref a0_turnWord, .ref a0_turnFrom, .int v0_turns, .ref a0_pieceSign, .ref a0_pieceFrom, .int v0_pieces, .int v0_signs, .ref a0_runFrom, .ref a0_runLong, .ref a0_runPiece, .int v0_runs, .ref a0_alike, .ref a0_stood])), (a0_all, .inl (D.2 1, 5228, .inl g0_all)), (a0_turnWord, .inl (D.2 1, 320, .inl g0_turnWord)), (a0_turnFrom, .inl (D.2 1, 320, .inl g0_turnFrom)), (a0_pieceSign, .inl (D.2 1, 40, .inl g0_pieceSign)), (a0_pieceFrom, .inl (D.2 1, 14, .inl g0_pieceFrom)), (a0_runFrom, .inl (D.2 1, 40, .inl g0_runFrom)), (a0_runLong, .inl (D.2 1, 40, .inl g0_runLong)), (a0_runPiece, .inl (D.2 1, 40, .inl g0_runPiece))]) ⟨hx, hb, hml, hown, hts⟩ (mX12_begins l D a0 a0_all a0_tape a0_isImage a0_turnWord a0_turnFrom a0_pieceSign a0_pieceFrom a0_runFrom a0_runLong a0_runPiece a0_alike a0_stood H.size v0_taped v0_faultKind v0_faultPlace v0_undos v0_turns v0_pieces v0_signs v0_runs g0_all g0_turnWord g0_turnFrom g0_pieceSign g0_runFrom g0_runLong (0 : Int32) x4 p1 N r21 hr21) (cwV 3 hts gX12_run_X12_begins rfl rfl rfl (by decide +kernel) ⟨Nat.le_of_ble_eq_true rfl, Nat.le_of_ble_eq_true rfl⟩) hK hP hD hS hA [0, 1, 2, 3, 4, 6, 7] [5, 8] [2, 3, 4, 5, 6, 0, 7, 8, 1] rfl (by decide) rfl (by decide) (by decide) rfl (by decide) rfl rfl rfl hl.1 rfl (Nat.le_of_ble_eq_true rfl) dX12_run_87 ⟨Nat.zero_le _, Nat.zero_le _⟩ (fun H locs hb_22 hP hD hS => ?_)
        refine lv_if_eq (tgt := 96) hx hb dX12_run_90 (by decide) (fun c_23 => ?_) (fun c_23 => ?_)
        · replace hf := ip c_23 hf
          refine lv_iinc (v := (x4 + (1 : Int32))) (lv' := [(4, .int (x4 + (1 : Int32))), (0, .ref a0), (1, .int p1)]) hx hb dX12_run_96 hl (k := 2) rfl rfl (by decide) rfl (fun ls hl => ?_)
          refine lv_goto (tgt := 73) hx hb dX12_run_99 (by decide) ?_
          exact ih (x4 + (1 : Int32)) v0_turns v0_pieces v0_signs v0_runs g0_turnWord g0_turnFrom g0_pieceSign g0_pieceFrom g0_runFrom g0_runLong g0_runPiece H locs ls hf hP hD hS (lv_sub hl [1, 2, 0] rfl)
        · replace hf := im c_23 hf
          refine lv_iload hx hb dX12_run_93 (lv_at hl 2 rfl) ?_
          have he := Option.some.inj hf
          rw [hQ]
          exact W.iret (v := x4) hx hb hr (fun t ht hW => by rw [← he]; exact ⟨⟨x4, (), rfl, rfl, by rw [ht]; exact hP, hD⟩, hS.F ht⟩) hS.2.2 dX12_run_95
  unfold fX12_run at hf
  refine lv_aload_n hx hb dX12_run_0 rfl (lv_at hl 0 rfl) ?_
  obtain ⟨r1, hr1, hf⟩ := bd hf
  refine zVv (As := []) (rest := []) (ci := 9) (q0 := 0) (wn := [(a0, .inr (9, [.ref a0_all, .ref a0_tape, .ref a0_isImage, .int v0_taped, .int v0_faultKind, .int v0_faultPlace, .int v0_undos, .ref a0_turnWord, .ref a0_turnFrom, .int r1.1, .ref a0_pieceSign, .ref a0_pieceFrom, .int r1.2.1, .int r1.2.2.1, .ref a0_runFrom, .ref a0_runLong, .ref a0_runPiece, .int r1.2.2.2.1, .ref a0_alike, .ref a0_stood])), (a0_all, .inl (D.2 1, 5228, .inl g0_all)), (a0_turnWord, .inl (D.2 1, 320, .inl r1.2.2.2.2.1)), (a0_turnFrom, .inl (D.2 1, 320, .inl r1.2.2.2.2.2.1)), (a0_pieceSign, .inl (D.2 1, 40, .inl r1.2.2.2.2.2.2.1)), (a0_pieceFrom, .inl (D.2 1, 14, .inl r1.2.2.2.2.2.2.2.1)), (a0_runFrom, .inl (D.2 1, 40, .inl r1.2.2.2.2.2.2.2.2.1)), (a0_runLong, .inl (D.2 1, 40, .inl r1.2.2.2.2.2.2.2.2.2.1)), (a0_runPiece, .inl (D.2 1, 40, .inl r1.2.2.2.2.2.2.2.2.2.2))]) ⟨hx, hb, hml, hown, hts⟩ (mX12_laysAll l D a0 a0_all a0_tape a0_isImage a0_turnWord a0_turnFrom a0_pieceSign a0_pieceFrom a0_runFrom a0_runLong a0_runPiece a0_alike a0_stood H.size v0_taped v0_faultKind v0_faultPlace v0_undos v0_turns v0_pieces v0_signs v0_runs g0_all g0_turnWord g0_turnFrom g0_pieceSign g0_pieceFrom g0_runFrom g0_runLong g0_runPiece N r1 hr1) (cwV 0 hts gX12_run_X12_laysAll rfl rfl rfl (by decide +kernel) ⟨Nat.le_of_ble_eq_true rfl, Nat.le_of_ble_eq_true rfl⟩) hK hP hD hS hA [0, 1, 2, 3, 4, 5, 6, 7, 8] [] [0, 1, 2, 3, 4, 5, 6, 7, 8] rfl (by decide) rfl (by decide) (by decide) rfl (by decide) rfl rfl rfl hl.1 rfl (Nat.le_of_ble_eq_true rfl) dX12_run_1 ⟨Nat.zero_le _, Nat.zero_le _⟩ (fun H locs hP hD hS => ?_)
  refine lv_iload_n hx hb dX12_run_4 rfl (lv_at hl 1 rfl) ?_
  refine lv_iconst (v := 0) hx hb dX12_run_5 (by decide) ?_
  refine lv_aload_n hx hb dX12_run_6 rfl (lv_at hl 0 rfl) ?_
  refine va_get (D := D.1) (ci := 9) (v := .int r1.2.2.2.1) (C := RX12) (T := TX12) (N := 20) hx hb hts hwX12 hown hK.1 hP 0 rfl rfl 17 (by decide) l122 (fun _ h9 => h9) rfl dX12_run_7 ?_
  refine lv_iconst (v := 1) hx hb dX12_run_10 (by decide) ?_
  refine lv_isub hx hb dX12_run_11 ?_
  obtain ⟨r2, hr2, hf⟩ := bd hf
  refine zSz (As := [.int p1, .int (0 : Int32), .int (r1.2.2.2.1 - (1 : Int32))]) (rest := []) (wn := [(a0, .inr (9, [.ref a0_all, .ref a0_tape, .ref a0_isImage, .int v0_taped, .int v0_faultKind, .int v0_faultPlace, .int v0_undos, .ref a0_turnWord, .ref a0_turnFrom, .int r1.1, .ref a0_pieceSign, .ref a0_pieceFrom, .int r1.2.1, .int r1.2.2.1, .ref a0_runFrom, .ref a0_runLong, .ref a0_runPiece, .int r1.2.2.2.1, .ref a0_alike, .ref a0_stood])), (a0_all, .inl (D.2 1, 5228, .inl g0_all)), (a0_turnWord, .inl (D.2 1, 320, .inl r1.2.2.2.2.1)), (a0_turnFrom, .inl (D.2 1, 320, .inl r1.2.2.2.2.2.1)), (a0_pieceSign, .inl (D.2 1, 40, .inl r1.2.2.2.2.2.2.1)), (a0_pieceFrom, .inl (D.2 1, 14, .inl r1.2.2.2.2.2.2.2.1)), (a0_runFrom, .inl (D.2 1, 40, .inl r1.2.2.2.2.2.2.2.2.1)), (a0_runLong, .inl (D.2 1, 40, .inl r1.2.2.2.2.2.2.2.2.2.1)), (a0_runPiece, .inl (D.2 1, 40, .inl r1.2.2.2.2.2.2.2.2.2.2))]) ⟨hx, hb, hml, hown, hts⟩ (mX12_isIn l D H.size p1 (0 : Int32) (r1.2.2.2.1 - (1 : Int32)) r2 hr2) (va_cwS 3 hts gX12_run_X12_isIn rfl rfl rfl (by decide +kernel) ⟨Nat.le_of_ble_eq_true rfl, Nat.le_of_ble_eq_true rfl⟩) hK hP hD hS hA [] [0, 1, 2, 3, 4, 5, 6, 7, 8] [0, 1, 2, 3, 4, 5, 6, 7, 8] rfl (by decide) rfl (by decide) (by decide) rfl (by decide) rfl hl.1 rfl (Nat.le_of_ble_eq_true rfl) dX12_run_12 ⟨Nat.zero_le _, Nat.zero_le _⟩ (fun H locs hb_3 hP hD hS => ?_)
  refine lv_if_ne (tgt := 20) hx hb dX12_run_15 (by decide) (fun c_4 => ?_) (fun c_4 => ?_)
  · replace hf := im c_4 hf
    refine lv_iconst (v := 0) hx hb dX12_run_20 (by decide) ?_
    refine lv_istore_n (lv' := [(3, .int (0 : Int32)), (0, .ref a0), (1, .int p1), (2, .int p2)]) hx hb dX12_run_21 rfl hl (by decide) rfl (fun ls hl => ?_)
    refine lv_iload_n hx hb dX12_run_22 rfl (lv_at hl 3 rfl) ?_
    by_cases c_5 : (p2).toInt < 0 ∨ 4 < (p2).toInt
    · replace hf := ip c_5 hf
      refine lv_tableOut (tgt := 150) hx hb dX12_run_23 c_5 (by decide) ?_
      refine lv_iload_n hx hb dX12_run_150 rfl (lv_at hl 3 rfl) ?_
      refine lv_iconst (v := 5) hx hb dX12_run_151 (by decide) ?_
      refine lv_isub hx hb dX12_run_152 ?_
      refine lv_iconst (v := 0) hx hb dX12_run_153 (by decide) ?_
      refine lv_aload_n hx hb dX12_run_154 rfl (lv_at hl 1 rfl) ?_
      refine va_get (D := D.1) (ci := 9) (v := .ref a0_runLong) (C := RX12) (T := TX12) (N := 20) hx hb hts hwX12 hown hK.1 hP 0 rfl rfl 15 (by decide) l39 (fun _ h9 => h9) rfl dX12_run_155 ?_
      refine lv_iload_n hx hb dX12_run_158 rfl (lv_at hl 2 rfl) ?_
      obtain ⟨h_6, hf⟩ := gd hf
      refine va_iald hx hb hK.1 hP 7 1 rfl rfl h_6 dX12_run_159 ?_
      refine lv_iconst (v := 1) hx hb dX12_run_160 (by decide) ?_
      refine lv_isub hx hb dX12_run_161 ?_
      obtain ⟨r7, hr7, hf⟩ := bd hf
      refine zSz (As := [.int (p2 - (5 : Int32)), .int (0 : Int32), .int ((r1.2.2.2.2.2.2.2.2.2.1 (p1).toNatClampNeg) - (1 : Int32))]) (rest := []) (wn := [(a0, .inr (9, [.ref a0_all, .ref a0_tape, .ref a0_isImage, .int v0_taped, .int v0_faultKind, .int v0_faultPlace, .int v0_undos, .ref a0_turnWord, .ref a0_turnFrom, .int r1.1, .ref a0_pieceSign, .ref a0_pieceFrom, .int r1.2.1, .int r1.2.2.1, .ref a0_runFrom, .ref a0_runLong, .ref a0_runPiece, .int r1.2.2.2.1, .ref a0_alike, .ref a0_stood])), (a0_all, .inl (D.2 1, 5228, .inl g0_all)), (a0_turnWord, .inl (D.2 1, 320, .inl r1.2.2.2.2.1)), (a0_turnFrom, .inl (D.2 1, 320, .inl r1.2.2.2.2.2.1)), (a0_pieceSign, .inl (D.2 1, 40, .inl r1.2.2.2.2.2.2.1)), (a0_pieceFrom, .inl (D.2 1, 14, .inl r1.2.2.2.2.2.2.2.1)), (a0_runFrom, .inl (D.2 1, 40, .inl r1.2.2.2.2.2.2.2.2.1)), (a0_runLong, .inl (D.2 1, 40, .inl r1.2.2.2.2.2.2.2.2.2.1)), (a0_runPiece, .inl (D.2 1, 40, .inl r1.2.2.2.2.2.2.2.2.2.2))]) ⟨hx, hb, hml, hown, hts⟩ (mX12_isIn l D H.size (p2 - (5 : Int32)) (0 : Int32) ((r1.2.2.2.2.2.2.2.2.2.1 (p1).toNatClampNeg) - (1 : Int32)) r7 hr7) (va_cwS 3 hts gX12_run_X12_isIn rfl rfl rfl (by decide +kernel) ⟨Nat.le_of_ble_eq_true rfl, Nat.le_of_ble_eq_true rfl⟩) hK hP hD hS hA [] [0, 1, 2, 3, 4, 5, 6, 7, 8] [0, 1, 2, 3, 4, 5, 6, 7, 8] rfl (by decide) rfl (by decide) (by decide) rfl (by decide) rfl hl.1 rfl (Nat.le_of_ble_eq_true rfl) dX12_run_162 ⟨Nat.zero_le _, Nat.zero_le _⟩ (fun H locs hb_8 hP hD hS => ?_)
      refine lv_if_eq (tgt := 186) hx hb dX12_run_165 (by decide) (fun c_9 => ?_) (fun c_9 => ?_)
      · replace hf := ip c_9 hf
        refine lv_iconst (v := -1) hx hb dX12_run_186 (by decide) ?_
        have he := Option.some.inj hf
        rw [hQ]
        exact W.iret (v := (-1 : Int32)) hx hb hr (fun t ht hW => by rw [← he]; exact ⟨⟨(-1 : Int32), (), rfl, rfl, by rw [ht]; exact hP, hD⟩, hS.F ht⟩) hS.2.2 dX12_run_187
      · replace hf := im c_9 hf
        refine lv_aload_n hx hb dX12_run_168 rfl (lv_at hl 1 rfl) ?_
        refine va_get (D := D.1) (ci := 9) (v := .ref a0_pieceSign) (C := RX12) (T := TX12) (N := 20) hx hb hts hwX12 hown hK.1 hP 0 rfl rfl 10 (by decide) l30 (fun _ h9 => h9) rfl dX12_run_169 ?_
        refine lv_aload_n hx hb dX12_run_172 rfl (lv_at hl 1 rfl) ?_
        refine va_get (D := D.1) (ci := 9) (v := .ref a0_runFrom) (C := RX12) (T := TX12) (N := 20) hx hb hts hwX12 hown hK.1 hP 0 rfl rfl 14 (by decide) l36 (fun _ h9 => h9) rfl dX12_run_173 ?_
        refine lv_iload_n hx hb dX12_run_176 rfl (lv_at hl 2 rfl) ?_
        obtain ⟨h_10, hf⟩ := gd hf
        refine va_iald hx hb hK.1 hP 6 1 rfl rfl h_10 dX12_run_177 ?_
        refine lv_iload_n hx hb dX12_run_178 rfl (lv_at hl 3 rfl) ?_
        refine lv_iadd hx hb dX12_run_179 ?_
        refine lv_iconst (v := 5) hx hb dX12_run_180 (by decide) ?_
        refine lv_isub hx hb dX12_run_181 ?_
        obtain ⟨h_11, hf⟩ := gd hf
        refine va_iald hx hb hK.1 hP 4 1 rfl rfl h_11 dX12_run_182 ?_
        refine lv_goto (tgt := 187) hx hb dX12_run_183 (by decide) ?_
        have he := Option.some.inj hf
        rw [hQ]
        exact W.iret (v := (r1.2.2.2.2.2.2.1 ((((r1.2.2.2.2.2.2.2.2.1 (p1).toNatClampNeg) + p2) - (5 : Int32))).toNatClampNeg)) hx hb hr (fun t ht hW => by rw [← he]; exact ⟨⟨(r1.2.2.2.2.2.2.1 ((((r1.2.2.2.2.2.2.2.2.1 (p1).toNatClampNeg) + p2) - (5 : Int32))).toNatClampNeg), (), rfl, rfl, by rw [ht]; exact hP, hD⟩, hS.F ht⟩) hS.2.2 dX12_run_187
    · replace hf := im c_5 hf
      by_cases c_12 : p2 = 0
      · replace hf := ip c_12 hf
        refine lv_tableIn (tgt := 56) hx hb dX12_run_23 (by rw [c_12]; decide) (by rw [c_12]; decide) (off := 33) (by rw [c_12]; rfl) (by decide) ?_
        refine lv_aload_n hx hb dX12_run_56 rfl (lv_at hl 1 rfl) ?_
        refine va_get (D := D.1) (ci := 9) (v := .ref a0_runLong) (C := RX12) (T := TX12) (N := 20) hx hb hts hwX12 hown hK.1 hP 0 rfl rfl 15 (by decide) l39 (fun _ h9 => h9) rfl dX12_run_57 ?_
        refine lv_iload_n hx hb dX12_run_60 rfl (lv_at hl 2 rfl) ?_
        obtain ⟨h_13, hf⟩ := gd hf
        refine va_iald hx hb hK.1 hP 7 1 rfl rfl h_13 dX12_run_61 ?_
        have he := Option.some.inj hf
        rw [hQ]
        exact W.iret (v := (r1.2.2.2.2.2.2.2.2.2.1 (p1).toNatClampNeg)) hx hb hr (fun t ht hW => by rw [← he]; exact ⟨⟨(r1.2.2.2.2.2.2.2.2.2.1 (p1).toNatClampNeg), (), rfl, rfl, by rw [ht]; exact hP, hD⟩, hS.F ht⟩) hS.2.2 dX12_run_62
      replace hf := im c_12 hf
      by_cases c_14 : p2 = 1
      · replace hf := ip c_14 hf
        refine lv_tableIn (tgt := 63) hx hb dX12_run_23 (by rw [c_14]; decide) (by rw [c_14]; decide) (off := 40) (by rw [c_14]; rfl) (by decide) ?_
        refine lv_aload_n hx hb dX12_run_63 rfl (lv_at hl 1 rfl) ?_
        refine va_get (D := D.1) (ci := 9) (v := .ref a0_runPiece) (C := RX12) (T := TX12) (N := 20) hx hb hts hwX12 hown hK.1 hP 0 rfl rfl 16 (by decide) l42 (fun _ h9 => h9) rfl dX12_run_64 ?_
        refine lv_iload_n hx hb dX12_run_67 rfl (lv_at hl 2 rfl) ?_
        obtain ⟨h_15, hf⟩ := gd hf
        refine va_iald hx hb hK.1 hP 8 1 rfl rfl h_15 dX12_run_68 ?_
        have he := Option.some.inj hf
        rw [hQ]
        exact W.iret (v := (r1.2.2.2.2.2.2.2.2.2.2 (p1).toNatClampNeg)) hx hb hr (fun t ht hW => by rw [← he]; exact ⟨⟨(r1.2.2.2.2.2.2.2.2.2.2 (p1).toNatClampNeg), (), rfl, rfl, by rw [ht]; exact hP, hD⟩, hS.F ht⟩) hS.2.2 dX12_run_69
      replace hf := im c_14 hf
      by_cases c_16 : p2 = 2
      · replace hf := ip c_16 hf
        refine lv_tableIn (tgt := 70) hx hb dX12_run_23 (by rw [c_16]; decide) (by rw [c_16]; decide) (off := 47) (by rw [c_16]; rfl) (by decide) ?_
        refine lv_iconst (v := 0) hx hb dX12_run_70 (by decide) ?_
        refine lv_istore (lv' := [(4, .int (0 : Int32)), (3, .int (0 : Int32)), (0, .ref a0), (1, .int p1), (2, .int p2)]) hx hb dX12_run_71 hl (by decide) rfl (fun ls hl => ?_)
        exact k73 N (0 : Int32) r1.1 r1.2.1 r1.2.2.1 r1.2.2.2.1 r1.2.2.2.2.1 r1.2.2.2.2.2.1 r1.2.2.2.2.2.2.1 r1.2.2.2.2.2.2.2.1 r1.2.2.2.2.2.2.2.2.1 r1.2.2.2.2.2.2.2.2.2.1 r1.2.2.2.2.2.2.2.2.2.2 H locs ls hf hP hD hS (lv_sub hl [2, 3, 0] rfl)
      replace hf := im c_16 hf
      by_cases c_17 : p2 = 3
      · replace hf := ip c_17 hf
        refine lv_tableIn (tgt := 104) hx hb dX12_run_23 (by rw [c_17]; decide) (by rw [c_17]; decide) (off := 81) (by rw [c_17]; rfl) (by decide) ?_
        refine lv_aload_n hx hb dX12_run_104 rfl (lv_at hl 1 rfl) ?_
        refine lv_iload_n hx hb dX12_run_105 rfl (lv_at hl 2 rfl) ?_
        obtain ⟨r18, hr18, hf⟩ := bd hf
        refine zVi (As := [.int p1]) (rest := []) (ci := 9) (q0 := 0) (wn := [(a0, .inr (9, [.ref a0_all, .ref a0_tape, .ref a0_isImage, .int v0_taped, .int v0_faultKind, .int v0_faultPlace, .int v0_undos, .ref a0_turnWord, .ref a0_turnFrom, .int r1.1, .ref a0_pieceSign, .ref a0_pieceFrom, .int r1.2.1, .int r1.2.2.1, .ref a0_runFrom, .ref a0_runLong, .ref a0_runPiece, .int r1.2.2.2.1, .ref a0_alike, .ref a0_stood])), (a0_all, .inl (D.2 1, 5228, .inl g0_all)), (a0_turnWord, .inl (D.2 1, 320, .inl r1.2.2.2.2.1)), (a0_turnFrom, .inl (D.2 1, 320, .inl r1.2.2.2.2.2.1)), (a0_pieceSign, .inl (D.2 1, 40, .inl r1.2.2.2.2.2.2.1)), (a0_pieceFrom, .inl (D.2 1, 14, .inl r1.2.2.2.2.2.2.2.1)), (a0_runFrom, .inl (D.2 1, 40, .inl r1.2.2.2.2.2.2.2.2.1)), (a0_runLong, .inl (D.2 1, 40, .inl r1.2.2.2.2.2.2.2.2.2.1)), (a0_runPiece, .inl (D.2 1, 40, .inl r1.2.2.2.2.2.2.2.2.2.2))]) ⟨hx, hb, hml, hown, hts⟩ (mX12_rangeOf l D a0 a0_all a0_tape a0_isImage a0_turnWord a0_turnFrom a0_pieceSign a0_pieceFrom a0_runFrom a0_runLong a0_runPiece a0_alike a0_stood H.size v0_taped v0_faultKind v0_faultPlace v0_undos r1.1 r1.2.1 r1.2.2.1 r1.2.2.2.1 g0_all r1.2.2.2.2.1 r1.2.2.2.2.2.1 r1.2.2.2.2.2.2.1 r1.2.2.2.2.2.2.2.2.1 r1.2.2.2.2.2.2.2.2.2.1 p1 N r18 hr18) (cwV 1 hts gX12_run_X12_rangeOf rfl rfl rfl (by decide +kernel) ⟨Nat.le_of_ble_eq_true rfl, Nat.le_of_ble_eq_true rfl⟩) hK hP hD hS hA [0, 1, 2, 3, 4, 6, 7] [5, 8] [2, 3, 4, 5, 6, 0, 7, 8, 1] rfl (by decide) rfl (by decide) (by decide) rfl (by decide) rfl rfl rfl hl.1 rfl (Nat.le_of_ble_eq_true rfl) dX12_run_106 ⟨Nat.zero_le _, Nat.zero_le _⟩ (fun H locs hP hD hS => ?_)
        have he := Option.some.inj hf
        rw [hQ]
        exact W.iret (v := r18) hx hb hr (fun t ht hW => by rw [← he]; exact ⟨⟨r18, (), rfl, rfl, by rw [ht]; exact hP, hD⟩, hS.F ht⟩) hS.2.2 dX12_run_109
      replace hf := im c_17 hf
      by_cases c_19 : p2 = 4
      · replace hf := ip c_19 hf
        refine lv_tableIn (tgt := 110) hx hb dX12_run_23 (by rw [c_19]; decide) (by rw [c_19]; decide) (off := 87) (by rw [c_19]; rfl) (by decide) ?_
        refine lv_iconst (v := 0) hx hb dX12_run_110 (by decide) ?_
        refine lv_istore (lv' := [(4, .int (0 : Int32)), (3, .int (0 : Int32)), (0, .ref a0), (1, .int p1), (2, .int p2)]) hx hb dX12_run_111 hl (by decide) rfl (fun ls hl => ?_)
        exact k113 N (0 : Int32) (0 : Int32) r1.1 r1.2.1 r1.2.2.1 r1.2.2.2.1 r1.2.2.2.2.1 r1.2.2.2.2.2.1 r1.2.2.2.2.2.2.1 r1.2.2.2.2.2.2.2.1 r1.2.2.2.2.2.2.2.2.1 r1.2.2.2.2.2.2.2.2.2.1 r1.2.2.2.2.2.2.2.2.2.2 H locs ls hf hP hD hS (lv_sub hl [2, 3, 1, 0] rfl)
      replace hf := im c_19 hf
      cases hf
  · replace hf := ip c_4 hf
    refine lv_iconst (v := -1) hx hb dX12_run_18 (by decide) ?_
    have he := Option.some.inj hf
    rw [hQ]
    exact W.iret (v := (-1 : Int32)) hx hb hr (fun t ht hW => by rw [← he]; exact ⟨⟨(-1 : Int32), (), rfl, rfl, by rw [ht]; exact hP, hD⟩, hS.F ht⟩) hS.2.2 dX12_run_19
def fX12_of_25 (N : Nat) (g0_all : Nat → Int32) (p1 : Int32) (p2 : Int32) : Nat → Int32 → Int32 → Int32 → Int32 → Int32 → Int32 → (Nat → Int32) → (Nat → Int32) → (Nat → Int32) → (Nat → Int32) → (Nat → Int32) → (Nat → Int32) → (Nat → Int32) → Option (Int32 × Int32 × Int32 × Int32 × Int32 × (Nat → Int32) × (Nat → Int32) × (Nat → Int32) × (Nat → Int32) × (Nat → Int32) × (Nat → Int32) × (Nat → Int32))
  | 0, _, _, _, _, _, _, _, _, _, _, _, _, _ => none
  | K + 1, x3, x4, v0_turns, v0_pieces, v0_signs, v0_runs, g0_turnWord, g0_turnFrom, g0_pieceSign, g0_pieceFrom, g0_runFrom, g0_runLong, g0_runPiece =>
    if (0 : Int32) < 0 ∨ 5228 ≤ ((0 : Int32)).toNatClampNeg then none else
    if (g0_all ((0 : Int32)).toNatClampNeg) ≤ x4 then
      some ((-1 : Int32), v0_turns, v0_pieces, v0_signs, v0_runs, g0_turnWord, g0_turnFrom, g0_pieceSign, g0_pieceFrom, g0_runFrom, g0_runLong, g0_runPiece)
    else
      Option.bind (fX12_isOf N v0_turns g0_all g0_turnWord g0_turnFrom g0_pieceSign g0_runFrom g0_runLong x4 p1) fun r7 =>
      if r7 = (0 : Int32) then
        (fX12_of_25 N g0_all p1 p2 K) x3 (x4 + (1 : Int32)) v0_turns v0_pieces v0_signs v0_runs g0_turnWord g0_turnFrom g0_pieceSign g0_pieceFrom g0_runFrom g0_runLong g0_runPiece
      else
        if x3 = p2 then
          some (x4, v0_turns, v0_pieces, v0_signs, v0_runs, g0_turnWord, g0_turnFrom, g0_pieceSign, g0_pieceFrom, g0_runFrom, g0_runLong, g0_runPiece)
        else
          (fX12_of_25 N g0_all p1 p2 K) (x3 + (1 : Int32)) (x4 + (1 : Int32)) v0_turns v0_pieces v0_signs v0_runs g0_turnWord g0_turnFrom g0_pieceSign g0_pieceFrom g0_runFrom g0_runLong g0_runPiece
def fX12_of (N : Nat) (v0_turns : Int32) (v0_pieces : Int32) (v0_signs : Int32) (v0_runs : Int32) (g0_all : Nat → Int32) (g0_turnWord : Nat → Int32) (g0_turnFrom : Nat → Int32) (g0_pieceSign : Nat → Int32) (g0_pieceFrom : Nat → Int32) (g0_runFrom : Nat → Int32) (g0_runLong : Nat → Int32) (g0_runPiece : Nat → Int32) (p1 : Int32) (p2 : Int32) : Option (Int32 × Int32 × Int32 × Int32 × Int32 × (Nat → Int32) × (Nat → Int32) × (Nat → Int32) × (Nat → Int32) × (Nat → Int32) × (Nat → Int32) × (Nat → Int32)) :=
  Option.bind (fX12_laysAll N v0_turns v0_pieces v0_signs v0_runs g0_all g0_turnWord g0_turnFrom g0_pieceSign g0_pieceFrom g0_runFrom g0_runLong g0_runPiece) fun r1 =>
  Option.bind (fX12_isIn p1 (0 : Int32) (r1.2.2.2.1 - (1 : Int32))) fun r2 =>
  if r2 = (0 : Int32) then
    some ((-1 : Int32), r1.1, r1.2.1, r1.2.2.1, r1.2.2.2.1, r1.2.2.2.2.1, r1.2.2.2.2.2.1, r1.2.2.2.2.2.2.1, r1.2.2.2.2.2.2.2.1, r1.2.2.2.2.2.2.2.2.1, r1.2.2.2.2.2.2.2.2.2.1, r1.2.2.2.2.2.2.2.2.2.2)
  else
    fX12_of_25 N g0_all p1 p2 N (0 : Int32) (0 : Int32) r1.1 r1.2.1 r1.2.2.1 r1.2.2.2.1 r1.2.2.2.2.1 r1.2.2.2.2.2.1 r1.2.2.2.2.2.2.1 r1.2.2.2.2.2.2.2.1 r1.2.2.2.2.2.2.2.2.1 r1.2.2.2.2.2.2.2.2.2.1 r1.2.2.2.2.2.2.2.2.2.2
set_option maxHeartbeats 4000000 in
set_option maxRecDepth 100000 in
theorem mX12_of (l : Launch) (D : zG) (a0 : Nat) (a0_all : Nat) (a0_tape : Nat) (a0_isImage : Nat) (a0_turnWord : Nat) (a0_turnFrom : Nat) (a0_pieceSign : Nat) (a0_pieceFrom : Nat) (a0_runFrom : Nat) (a0_runLong : Nat) (a0_runPiece : Nat) (a0_alike : Nat) (a0_stood : Nat) (sz : Nat)  (v0_taped : Int32) (v0_faultKind : Int32) (v0_faultPlace : Int32) (v0_undos : Int32) (v0_turns : Int32) (v0_pieces : Int32) (v0_signs : Int32) (v0_runs : Int32) (g0_all : Nat → Int32) (g0_turnWord : Nat → Int32) (g0_turnFrom : Nat → Int32) (g0_pieceSign : Nat → Int32) (g0_pieceFrom : Nat → Int32) (g0_runFrom : Nat → Int32) (g0_runLong : Nat → Int32) (g0_runPiece : Nat → Int32) (p1 : Int32) (p2 : Int32) (N : Nat) (res : Int32 × Int32 × Int32 × Int32 × Int32 × (Nat → Int32) × (Nat → Int32) × (Nat → Int32) × (Nat → Int32) × (Nat → Int32) × (Nat → Int32) × (Nat → Int32)) (hf : fX12_of N v0_turns v0_pieces v0_signs v0_runs g0_all g0_turnWord g0_turnFrom g0_pieceSign g0_pieceFrom g0_runFrom g0_runLong g0_runPiece p1 p2 = some res) : Met l yX12_of wsX12_of ({ frames := 5, cells := 0, slots := 0, locals := 118 } : Room) (va_Pc [.ref a0, .int p1, .int p2] (zW D sz [(a0, .inr (9, [.ref a0_all, .ref a0_tape, .ref a0_isImage, .int v0_taped, .int v0_faultKind, .int v0_faultPlace, .int v0_undos, .ref a0_turnWord, .ref a0_turnFrom, .int v0_turns, .ref a0_pieceSign, .ref a0_pieceFrom, .int v0_pieces, .int v0_signs, .ref a0_runFrom, .ref a0_runLong, .ref a0_runPiece, .int v0_runs, .ref a0_alike, .ref a0_stood])), (a0_all, .inl (D.2 1, 5228, .inl g0_all)), (a0_turnWord, .inl (D.2 1, 320, .inl g0_turnWord)), (a0_turnFrom, .inl (D.2 1, 320, .inl g0_turnFrom)), (a0_pieceSign, .inl (D.2 1, 40, .inl g0_pieceSign)), (a0_pieceFrom, .inl (D.2 1, 14, .inl g0_pieceFrom)), (a0_runFrom, .inl (D.2 1, 40, .inl g0_runFrom)), (a0_runLong, .inl (D.2 1, 40, .inl g0_runLong)), (a0_runPiece, .inl (D.2 1, 40, .inl g0_runPiece))])) (va_Qi (fun r (_ : Unit) => r = res.1) (fun _ => zB D (va_A [(a0, .inr (9, [.ref a0_all, .ref a0_tape, .ref a0_isImage, .int v0_taped, .int v0_faultKind, .int v0_faultPlace, .int v0_undos, .ref a0_turnWord, .ref a0_turnFrom, .int v0_turns, .ref a0_pieceSign, .ref a0_pieceFrom, .int v0_pieces, .int v0_signs, .ref a0_runFrom, .ref a0_runLong, .ref a0_runPiece, .int v0_runs, .ref a0_alike, .ref a0_stood])), (a0_all, .inl (D.2 1, 5228, .inl g0_all)), (a0_turnWord, .inl (D.2 1, 320, .inl g0_turnWord)), (a0_turnFrom, .inl (D.2 1, 320, .inl g0_turnFrom)), (a0_pieceSign, .inl (D.2 1, 40, .inl g0_pieceSign)), (a0_pieceFrom, .inl (D.2 1, 14, .inl g0_pieceFrom)), (a0_runFrom, .inl (D.2 1, 40, .inl g0_runFrom)), (a0_runLong, .inl (D.2 1, 40, .inl g0_runLong)), (a0_runPiece, .inl (D.2 1, 40, .inl g0_runPiece))] sz) [(a0, .inr (9, [.ref a0_all, .ref a0_tape, .ref a0_isImage, .int v0_taped, .int v0_faultKind, .int v0_faultPlace, .int v0_undos, .ref a0_turnWord, .ref a0_turnFrom, .int res.2.1, .ref a0_pieceSign, .ref a0_pieceFrom, .int res.2.2.1, .int res.2.2.2.1, .ref a0_runFrom, .ref a0_runLong, .ref a0_runPiece, .int res.2.2.2.2.1, .ref a0_alike, .ref a0_stood])), (a0_all, .inl (D.2 1, 5228, .inl g0_all)), (a0_turnWord, .inl (D.2 1, 320, .inl res.2.2.2.2.2.1)), (a0_turnFrom, .inl (D.2 1, 320, .inl res.2.2.2.2.2.2.1)), (a0_pieceSign, .inl (D.2 1, 40, .inl res.2.2.2.2.2.2.2.1)), (a0_pieceFrom, .inl (D.2 1, 14, .inl res.2.2.2.2.2.2.2.2.1)), (a0_runFrom, .inl (D.2 1, 40, .inl res.2.2.2.2.2.2.2.2.2.1)), (a0_runLong, .inl (D.2 1, 40, .inl res.2.2.2.2.2.2.2.2.2.2.1)), (a0_runPiece, .inl (D.2 1, 40, .inl res.2.2.2.2.2.2.2.2.2.2.2))]) (va_A [(a0, .inr (9, [.ref a0_all, .ref a0_tape, .ref a0_isImage, .int v0_taped, .int v0_faultKind, .int v0_faultPlace, .int v0_undos, .ref a0_turnWord, .ref a0_turnFrom, .int v0_turns, .ref a0_pieceSign, .ref a0_pieceFrom, .int v0_pieces, .int v0_signs, .ref a0_runFrom, .ref a0_runLong, .ref a0_runPiece, .int v0_runs, .ref a0_alike, .ref a0_stood])), (a0_all, .inl (D.2 1, 5228, .inl g0_all)), (a0_turnWord, .inl (D.2 1, 320, .inl g0_turnWord)), (a0_turnFrom, .inl (D.2 1, 320, .inl g0_turnFrom)), (a0_pieceSign, .inl (D.2 1, 40, .inl g0_pieceSign)), (a0_pieceFrom, .inl (D.2 1, 14, .inl g0_pieceFrom)), (a0_runFrom, .inl (D.2 1, 40, .inl g0_runFrom)), (a0_runLong, .inl (D.2 1, 40, .inl g0_runLong)), (a0_runPiece, .inl (D.2 1, 40, .inl g0_runPiece))] sz)) 0 0 (va_A [(a0, .inr (9, [.ref a0_all, .ref a0_tape, .ref a0_isImage, .int v0_taped, .int v0_faultKind, .int v0_faultPlace, .int v0_undos, .ref a0_turnWord, .ref a0_turnFrom, .int v0_turns, .ref a0_pieceSign, .ref a0_pieceFrom, .int v0_pieces, .int v0_signs, .ref a0_runFrom, .ref a0_runLong, .ref a0_runPiece, .int v0_runs, .ref a0_alike, .ref a0_stood])), (a0_all, .inl (D.2 1, 5228, .inl g0_all)), (a0_turnWord, .inl (D.2 1, 320, .inl g0_turnWord)), (a0_turnFrom, .inl (D.2 1, 320, .inl g0_turnFrom)), (a0_pieceSign, .inl (D.2 1, 40, .inl g0_pieceSign)), (a0_pieceFrom, .inl (D.2 1, 14, .inl g0_pieceFrom)), (a0_runFrom, .inl (D.2 1, 40, .inl g0_runFrom)), (a0_runLong, .inl (D.2 1, 40, .inl g0_runLong)), (a0_runPiece, .inl (D.2 1, 40, .inl g0_runPiece))] sz) := by
  refine Met.ofW (cc := cX12_of) (maxL := 5) (ret := (some .int)) (by decide) rfl ?_
  intro p e s m args below meth c s₁ B hml hv
  obtain ⟨rfl, hsz, hP, hK, hD0⟩ := hv
  have hx := B.exec
  have hb := B.bytes
  have hr := B.returns
  have hts := atoms_spec (ws := wsX12_of) B.pre
  have hown : s.vm.findClass RX12 = some m.cls := findClass_of_methodNamed B.named
  have hlocks := B.notSynchronized
  subst hsz
  have hD := hD0.self (sz := s.heap.size)
  generalize hAe : va_A [(a0, .inr (9, [.ref a0_all, .ref a0_tape, .ref a0_isImage, .int v0_taped, .int v0_faultKind, .int v0_faultPlace, .int v0_undos, .ref a0_turnWord, .ref a0_turnFrom, .int v0_turns, .ref a0_pieceSign, .ref a0_pieceFrom, .int v0_pieces, .int v0_signs, .ref a0_runFrom, .ref a0_runLong, .ref a0_runPiece, .int v0_runs, .ref a0_alike, .ref a0_stood])), (a0_all, .inl (D.2 1, 5228, .inl g0_all)), (a0_turnWord, .inl (D.2 1, 320, .inl g0_turnWord)), (a0_turnFrom, .inl (D.2 1, 320, .inl g0_turnFrom)), (a0_pieceSign, .inl (D.2 1, 40, .inl g0_pieceSign)), (a0_pieceFrom, .inl (D.2 1, 14, .inl g0_pieceFrom)), (a0_runFrom, .inl (D.2 1, 40, .inl g0_runFrom)), (a0_runLong, .inl (D.2 1, 40, .inl g0_runLong)), (a0_runPiece, .inl (D.2 1, 40, .inl g0_runPiece))] s.heap.size = A at hD ⊢
  have hA : ∀ q : Nat, s.heap.size ≤ q → A q := fun q h => by rw [← hAe]; exact Or.inr h
  have l122 := zat hts 1 (w := .fieldLink RX12 122 "TurnedWordsModel" "runs" "I") rfl
  have l7 := zat hts 2 (w := .fieldLink RX12 7 "TurnedWordsModel" "all" "[I") rfl
  have hwX12 : ∀ w ∈ u_ws RX12 TX12 20, w ∈ wsX12_of := fun w h => List.mem_cons_of_mem _ (List.mem_append_right _ h)
  have hl := lv_entry ([.ref a0, .int p1, .int p2]) (n := 5) (Nat.le_of_ble_eq_true rfl)
  rw [lg_entry_eq]
  generalize (lg_sl ([.ref a0, .int p1, .int p2]) ++ List.replicate (5 - (lg_sl ([.ref a0, .int p1, .int p2])).length) Slot.unset).toArray = ls at hl ⊢
  have hl : lv_has ls 5 [(0, .ref a0), (1, .int p1), (2, .int p2)] := hl
  refine zStart (A := A) hP (fun Q0 H locs hQ hP hS => ?_)
  have k25 : ∀ K : Nat, ∀ (x3 : Int32) (x4 : Int32) (v0_turns : Int32) (v0_pieces : Int32) (v0_signs : Int32) (v0_runs : Int32) (g0_turnWord : Nat → Int32) (g0_turnFrom : Nat → Int32) (g0_pieceSign : Nat → Int32) (g0_pieceFrom : Nat → Int32) (g0_runFrom : Nat → Int32) (g0_runLong : Nat → Int32) (g0_runPiece : Nat → Int32) (H : Heap) (locs : List Loc) (ls : Array Slot), fX12_of_25 N g0_all p1 p2 K x3 x4 v0_turns v0_pieces v0_signs v0_runs g0_turnWord g0_turnFrom g0_pieceSign g0_pieceFrom g0_runFrom g0_runLong g0_runPiece = some res → va_P D.1 vwCl [(a0, .inr (9, [.ref a0_all, .ref a0_tape, .ref a0_isImage, .int v0_taped, .int v0_faultKind, .int v0_faultPlace, .int v0_undos, .ref a0_turnWord, .ref a0_turnFrom, .int v0_turns, .ref a0_pieceSign, .ref a0_pieceFrom, .int v0_pieces, .int v0_signs, .ref a0_runFrom, .ref a0_runLong, .ref a0_runPiece, .int v0_runs, .ref a0_alike, .ref a0_stood])), (a0_all, .inl (D.2 1, 5228, .inl g0_all)), (a0_turnWord, .inl (D.2 1, 320, .inl g0_turnWord)), (a0_turnFrom, .inl (D.2 1, 320, .inl g0_turnFrom)), (a0_pieceSign, .inl (D.2 1, 40, .inl g0_pieceSign)), (a0_pieceFrom, .inl (D.2 1, 14, .inl g0_pieceFrom)), (a0_runFrom, .inl (D.2 1, 40, .inl g0_runFrom)), (a0_runLong, .inl (D.2 1, 40, .inl g0_runLong)), (a0_runPiece, .inl (D.2 1, 40, .inl g0_runPiece))] H → va_D A [(a0, .inr (9, [.ref a0_all, .ref a0_tape, .ref a0_isImage, .int v0_taped, .int v0_faultKind, .int v0_faultPlace, .int v0_undos, .ref a0_turnWord, .ref a0_turnFrom, .int v0_turns, .ref a0_pieceSign, .ref a0_pieceFrom, .int v0_pieces, .int v0_signs, .ref a0_runFrom, .ref a0_runLong, .ref a0_runPiece, .int v0_runs, .ref a0_alike, .ref a0_stood])), (a0_all, .inl (D.2 1, 5228, .inl g0_all)), (a0_turnWord, .inl (D.2 1, 320, .inl g0_turnWord)), (a0_turnFrom, .inl (D.2 1, 320, .inl g0_turnFrom)), (a0_pieceSign, .inl (D.2 1, 40, .inl g0_pieceSign)), (a0_pieceFrom, .inl (D.2 1, 14, .inl g0_pieceFrom)), (a0_runFrom, .inl (D.2 1, 40, .inl g0_runFrom)), (a0_runLong, .inl (D.2 1, 40, .inl g0_runLong)), (a0_runPiece, .inl (D.2 1, 40, .inl g0_runPiece))] → va_S A s.heap H locs → lv_has ls 5 [(0, .ref a0), (1, .int p1), (2, .int p2), (3, .int x3), (4, .int x4)] → W p l e (headSpec wsX12_of ({ frames := 5, cells := 0, slots := 0, locals := 118 } : Room)).room s m ([.ref a0, .int p1, .int p2] : List Value).toArray below meth c H locs 0 0 Q0 (F0 m 25 ls []) := by
    intro K
    induction K with
    | zero =>
      intro x3 x4 v0_turns v0_pieces v0_signs v0_runs g0_turnWord g0_turnFrom g0_pieceSign g0_pieceFrom g0_runFrom g0_runLong g0_runPiece H locs ls hf
      rw [fX12_of_25] at hf
      cases hf
    | succ K ih =>
      intro x3 x4 v0_turns v0_pieces v0_signs v0_runs g0_turnWord g0_turnFrom g0_pieceSign g0_pieceFrom g0_runFrom g0_runLong g0_runPiece H locs ls hf hP hD hS hl
      rw [fX12_of_25] at hf
      refine lv_iload hx hb dX12_of_25 (lv_at hl 4 rfl) ?_
      refine lv_aload_n hx hb dX12_of_27 rfl (lv_at hl 0 rfl) ?_
      refine va_get (D := D.1) (ci := 9) (v := .ref a0_all) (C := RX12) (T := TX12) (N := 20) hx hb hts hwX12 hown hK.1 hP 0 rfl rfl 0 (by decide) l7 (fun _ h9 => h9) rfl dX12_of_28 ?_
      refine lv_iconst (v := 0) hx hb dX12_of_31 (by decide) ?_
      obtain ⟨h_5, hf⟩ := gd hf
      refine va_iald hx hb hK.1 hP 1 1 rfl rfl h_5 dX12_of_32 ?_
      refine lv_icmp_ge (tgt := 66) hx hb dX12_of_33 (by decide) (fun c_6 => ?_) (fun c_6 => ?_)
      · replace hf := ip c_6 hf
        refine lv_iconst (v := -1) hx hb dX12_of_66 (by decide) ?_
        have he := Option.some.inj hf
        rw [hQ]
        exact W.iret (v := (-1 : Int32)) hx hb hr (fun t ht hW => by rw [← he]; exact ⟨⟨(-1 : Int32), (), rfl, rfl, by rw [ht]; exact hP, hD⟩, hS.F ht⟩) hS.2.2 dX12_of_67
      · replace hf := im c_6 hf
        refine lv_aload_n hx hb dX12_of_36 rfl (lv_at hl 0 rfl) ?_
        refine lv_iload hx hb dX12_of_37 (lv_at hl 4 rfl) ?_
        refine lv_iload_n hx hb dX12_of_39 rfl (lv_at hl 1 rfl) ?_
        obtain ⟨r7, hr7, hf⟩ := bd hf
        refine zVz (As := [.int x4, .int p1]) (rest := []) (ci := 9) (q0 := 0) (wn := [(a0, .inr (9, [.ref a0_all, .ref a0_tape, .ref a0_isImage, .int v0_taped, .int v0_faultKind, .int v0_faultPlace, .int v0_undos, .ref a0_turnWord, .ref a0_turnFrom, .int v0_turns, .ref a0_pieceSign, .ref a0_pieceFrom, .int v0_pieces, .int v0_signs, .ref a0_runFrom, .ref a0_runLong, .ref a0_runPiece, .int v0_runs, .ref a0_alike, .ref a0_stood])), (a0_all, .inl (D.2 1, 5228, .inl g0_all)), (a0_turnWord, .inl (D.2 1, 320, .inl g0_turnWord)), (a0_turnFrom, .inl (D.2 1, 320, .inl g0_turnFrom)), (a0_pieceSign, .inl (D.2 1, 40, .inl g0_pieceSign)), (a0_pieceFrom, .inl (D.2 1, 14, .inl g0_pieceFrom)), (a0_runFrom, .inl (D.2 1, 40, .inl g0_runFrom)), (a0_runLong, .inl (D.2 1, 40, .inl g0_runLong)), (a0_runPiece, .inl (D.2 1, 40, .inl g0_runPiece))]) ⟨hx, hb, hml, hown, hts⟩ (mX12_isOf l D a0 a0_all a0_tape a0_isImage a0_turnWord a0_turnFrom a0_pieceSign a0_pieceFrom a0_runFrom a0_runLong a0_runPiece a0_alike a0_stood H.size v0_taped v0_faultKind v0_faultPlace v0_undos v0_turns v0_pieces v0_signs v0_runs g0_all g0_turnWord g0_turnFrom g0_pieceSign g0_runFrom g0_runLong x4 p1 N r7 hr7) (cwV 2 hts gX12_of_X12_isOf rfl rfl rfl (by decide +kernel) ⟨Nat.le_of_ble_eq_true rfl, Nat.le_of_ble_eq_true rfl⟩) hK hP hD hS hA [0, 1, 2, 3, 4, 6, 7] [5, 8] [2, 3, 4, 5, 6, 0, 7, 8, 1] rfl (by decide) rfl (by decide) (by decide) rfl (by decide) rfl rfl rfl hl.1 rfl (Nat.le_of_ble_eq_true rfl) dX12_of_40 ⟨Nat.zero_le _, Nat.zero_le _⟩ (fun H locs hb_8 hP hD hS => ?_)
        refine lv_if_ne (tgt := 49) hx hb dX12_of_43 (by decide) (fun c_9 => ?_) (fun c_9 => ?_)
        · replace hf := im c_9 hf
          refine lv_iload_n hx hb dX12_of_49 rfl (lv_at hl 3 rfl) ?_
          refine lv_iload_n hx hb dX12_of_50 rfl (lv_at hl 2 rfl) ?_
          refine lv_icmp_ne (tgt := 57) hx hb dX12_of_51 (by decide) (fun c_10 => ?_) (fun c_10 => ?_)
          · replace hf := im c_10 hf
            refine lv_iinc (v := (x3 + (1 : Int32))) (lv' := [(3, .int (x3 + (1 : Int32))), (0, .ref a0), (1, .int p1), (2, .int p2), (4, .int x4)]) hx hb dX12_of_57 hl (k := 3) rfl rfl (by decide) rfl (fun ls hl => ?_)
            refine lv_iinc (v := (x4 + (1 : Int32))) (lv' := [(4, .int (x4 + (1 : Int32))), (3, .int (x3 + (1 : Int32))), (0, .ref a0), (1, .int p1), (2, .int p2)]) hx hb dX12_of_60 hl (k := 4) rfl rfl (by decide) rfl (fun ls hl => ?_)
            refine lv_goto (tgt := 25) hx hb dX12_of_63 (by decide) ?_
            exact ih (x3 + (1 : Int32)) (x4 + (1 : Int32)) v0_turns v0_pieces v0_signs v0_runs g0_turnWord g0_turnFrom g0_pieceSign g0_pieceFrom g0_runFrom g0_runLong g0_runPiece H locs ls hf hP hD hS (lv_sub hl [2, 3, 4, 1, 0] rfl)
          · replace hf := ip c_10 hf
            refine lv_iload hx hb dX12_of_54 (lv_at hl 4 rfl) ?_
            have he := Option.some.inj hf
            rw [hQ]
            exact W.iret (v := x4) hx hb hr (fun t ht hW => by rw [← he]; exact ⟨⟨x4, (), rfl, rfl, by rw [ht]; exact hP, hD⟩, hS.F ht⟩) hS.2.2 dX12_of_56
        · replace hf := ip c_9 hf
          refine lv_goto (tgt := 60) hx hb dX12_of_46 (by decide) ?_
          refine lv_iinc (v := (x4 + (1 : Int32))) (lv' := [(4, .int (x4 + (1 : Int32))), (0, .ref a0), (1, .int p1), (2, .int p2), (3, .int x3)]) hx hb dX12_of_60 hl (k := 4) rfl rfl (by decide) rfl (fun ls hl => ?_)
          refine lv_goto (tgt := 25) hx hb dX12_of_63 (by decide) ?_
          exact ih x3 (x4 + (1 : Int32)) v0_turns v0_pieces v0_signs v0_runs g0_turnWord g0_turnFrom g0_pieceSign g0_pieceFrom g0_runFrom g0_runLong g0_runPiece H locs ls hf hP hD hS (lv_sub hl [1, 2, 3, 4, 0] rfl)
  unfold fX12_of at hf
  refine lv_aload_n hx hb dX12_of_0 rfl (lv_at hl 0 rfl) ?_
  obtain ⟨r1, hr1, hf⟩ := bd hf
  refine zVv (As := []) (rest := []) (ci := 9) (q0 := 0) (wn := [(a0, .inr (9, [.ref a0_all, .ref a0_tape, .ref a0_isImage, .int v0_taped, .int v0_faultKind, .int v0_faultPlace, .int v0_undos, .ref a0_turnWord, .ref a0_turnFrom, .int r1.1, .ref a0_pieceSign, .ref a0_pieceFrom, .int r1.2.1, .int r1.2.2.1, .ref a0_runFrom, .ref a0_runLong, .ref a0_runPiece, .int r1.2.2.2.1, .ref a0_alike, .ref a0_stood])), (a0_all, .inl (D.2 1, 5228, .inl g0_all)), (a0_turnWord, .inl (D.2 1, 320, .inl r1.2.2.2.2.1)), (a0_turnFrom, .inl (D.2 1, 320, .inl r1.2.2.2.2.2.1)), (a0_pieceSign, .inl (D.2 1, 40, .inl r1.2.2.2.2.2.2.1)), (a0_pieceFrom, .inl (D.2 1, 14, .inl r1.2.2.2.2.2.2.2.1)), (a0_runFrom, .inl (D.2 1, 40, .inl r1.2.2.2.2.2.2.2.2.1)), (a0_runLong, .inl (D.2 1, 40, .inl r1.2.2.2.2.2.2.2.2.2.1)), (a0_runPiece, .inl (D.2 1, 40, .inl r1.2.2.2.2.2.2.2.2.2.2))]) ⟨hx, hb, hml, hown, hts⟩ (mX12_laysAll l D a0 a0_all a0_tape a0_isImage a0_turnWord a0_turnFrom a0_pieceSign a0_pieceFrom a0_runFrom a0_runLong a0_runPiece a0_alike a0_stood H.size v0_taped v0_faultKind v0_faultPlace v0_undos v0_turns v0_pieces v0_signs v0_runs g0_all g0_turnWord g0_turnFrom g0_pieceSign g0_pieceFrom g0_runFrom g0_runLong g0_runPiece N r1 hr1) (cwV 0 hts gX12_of_X12_laysAll rfl rfl rfl (by decide +kernel) ⟨Nat.le_of_ble_eq_true rfl, Nat.le_of_ble_eq_true rfl⟩) hK hP hD hS hA [0, 1, 2, 3, 4, 5, 6, 7, 8] [] [0, 1, 2, 3, 4, 5, 6, 7, 8] rfl (by decide) rfl (by decide) (by decide) rfl (by decide) rfl rfl rfl hl.1 rfl (Nat.le_of_ble_eq_true rfl) dX12_of_1 ⟨Nat.zero_le _, Nat.zero_le _⟩ (fun H locs hP hD hS => ?_)
  refine lv_iload_n hx hb dX12_of_4 rfl (lv_at hl 1 rfl) ?_
  refine lv_iconst (v := 0) hx hb dX12_of_5 (by decide) ?_
  refine lv_aload_n hx hb dX12_of_6 rfl (lv_at hl 0 rfl) ?_
  refine va_get (D := D.1) (ci := 9) (v := .int r1.2.2.2.1) (C := RX12) (T := TX12) (N := 20) hx hb hts hwX12 hown hK.1 hP 0 rfl rfl 17 (by decide) l122 (fun _ h9 => h9) rfl dX12_of_7 ?_
  refine lv_iconst (v := 1) hx hb dX12_of_10 (by decide) ?_
  refine lv_isub hx hb dX12_of_11 ?_
  obtain ⟨r2, hr2, hf⟩ := bd hf
  refine zSz (As := [.int p1, .int (0 : Int32), .int (r1.2.2.2.1 - (1 : Int32))]) (rest := []) (wn := [(a0, .inr (9, [.ref a0_all, .ref a0_tape, .ref a0_isImage, .int v0_taped, .int v0_faultKind, .int v0_faultPlace, .int v0_undos, .ref a0_turnWord, .ref a0_turnFrom, .int r1.1, .ref a0_pieceSign, .ref a0_pieceFrom, .int r1.2.1, .int r1.2.2.1, .ref a0_runFrom, .ref a0_runLong, .ref a0_runPiece, .int r1.2.2.2.1, .ref a0_alike, .ref a0_stood])), (a0_all, .inl (D.2 1, 5228, .inl g0_all)), (a0_turnWord, .inl (D.2 1, 320, .inl r1.2.2.2.2.1)), (a0_turnFrom, .inl (D.2 1, 320, .inl r1.2.2.2.2.2.1)), (a0_pieceSign, .inl (D.2 1, 40, .inl r1.2.2.2.2.2.2.1)), (a0_pieceFrom, .inl (D.2 1, 14, .inl r1.2.2.2.2.2.2.2.1)), (a0_runFrom, .inl (D.2 1, 40, .inl r1.2.2.2.2.2.2.2.2.1)), (a0_runLong, .inl (D.2 1, 40, .inl r1.2.2.2.2.2.2.2.2.2.1)), (a0_runPiece, .inl (D.2 1, 40, .inl r1.2.2.2.2.2.2.2.2.2.2))]) ⟨hx, hb, hml, hown, hts⟩ (mX12_isIn l D H.size p1 (0 : Int32) (r1.2.2.2.1 - (1 : Int32)) r2 hr2) (va_cwS 3 hts gX12_of_X12_isIn rfl rfl rfl (by decide +kernel) ⟨Nat.le_of_ble_eq_true rfl, Nat.le_of_ble_eq_true rfl⟩) hK hP hD hS hA [] [0, 1, 2, 3, 4, 5, 6, 7, 8] [0, 1, 2, 3, 4, 5, 6, 7, 8] rfl (by decide) rfl (by decide) (by decide) rfl (by decide) rfl hl.1 rfl (Nat.le_of_ble_eq_true rfl) dX12_of_12 ⟨Nat.zero_le _, Nat.zero_le _⟩ (fun H locs hb_3 hP hD hS => ?_)
  refine lv_if_ne (tgt := 20) hx hb dX12_of_15 (by decide) (fun c_4 => ?_) (fun c_4 => ?_)
  · replace hf := im c_4 hf
    refine lv_iconst (v := 0) hx hb dX12_of_20 (by decide) ?_
    refine lv_istore_n (lv' := [(3, .int (0 : Int32)), (0, .ref a0), (1, .int p1), (2, .int p2)]) hx hb dX12_of_21 rfl hl (by decide) rfl (fun ls hl => ?_)
    refine lv_iconst (v := 0) hx hb dX12_of_22 (by decide) ?_
    refine lv_istore (lv' := [(4, .int (0 : Int32)), (3, .int (0 : Int32)), (0, .ref a0), (1, .int p1), (2, .int p2)]) hx hb dX12_of_23 hl (by decide) rfl (fun ls hl => ?_)
    exact k25 N (0 : Int32) (0 : Int32) r1.1 r1.2.1 r1.2.2.1 r1.2.2.2.1 r1.2.2.2.2.1 r1.2.2.2.2.2.1 r1.2.2.2.2.2.2.1 r1.2.2.2.2.2.2.2.1 r1.2.2.2.2.2.2.2.2.1 r1.2.2.2.2.2.2.2.2.2.1 r1.2.2.2.2.2.2.2.2.2.2 H locs ls hf hP hD hS (lv_sub hl [2, 3, 4, 1, 0] rfl)
  · replace hf := ip c_4 hf
    refine lv_iconst (v := -1) hx hb dX12_of_18 (by decide) ?_
    have he := Option.some.inj hf
    rw [hQ]
    exact W.iret (v := (-1 : Int32)) hx hb hr (fun t ht hW => by rw [← he]; exact ⟨⟨(-1 : Int32), (), rfl, rfl, by rw [ht]; exact hP, hD⟩, hS.F ht⟩) hS.2.2 dX12_of_19
def fX12_shared_8 (N : Nat) (g0_all : Nat → Int32) (p1 : Int32) : Nat → Int32 → Int32 → Int32 → Int32 → Int32 → Int32 → (Nat → Int32) → (Nat → Int32) → (Nat → Int32) → (Nat → Int32) → (Nat → Int32) → (Nat → Int32) → (Nat → Int32) → Option (Int32 × Int32 × Int32 × Int32 × Int32 × (Nat → Int32) × (Nat → Int32) × (Nat → Int32) × (Nat → Int32) × (Nat → Int32) × (Nat → Int32) × (Nat → Int32))
  | 0, _, _, _, _, _, _, _, _, _, _, _, _, _ => none
  | K + 1, x2, x3, v0_turns, v0_pieces, v0_signs, v0_runs, g0_turnWord, g0_turnFrom, g0_pieceSign, g0_pieceFrom, g0_runFrom, g0_runLong, g0_runPiece =>
    if (0 : Int32) < 0 ∨ 5228 ≤ ((0 : Int32)).toNatClampNeg then none else
    if (g0_all ((0 : Int32)).toNatClampNeg) ≤ x3 then
      some ((-1 : Int32), v0_turns, v0_pieces, v0_signs, v0_runs, g0_turnWord, g0_turnFrom, g0_pieceSign, g0_pieceFrom, g0_runFrom, g0_runLong, g0_runPiece)
    else
      Option.bind (fX12_isShared N v0_turns v0_runs g0_all g0_turnWord g0_turnFrom g0_pieceSign g0_runFrom g0_runLong x3) fun r4 =>
      if r4 = (0 : Int32) then
        (fX12_shared_8 N g0_all p1 K) x2 (x3 + (1 : Int32)) v0_turns v0_pieces v0_signs v0_runs g0_turnWord g0_turnFrom g0_pieceSign g0_pieceFrom g0_runFrom g0_runLong g0_runPiece
      else
        if x2 = p1 then
          some (x3, v0_turns, v0_pieces, v0_signs, v0_runs, g0_turnWord, g0_turnFrom, g0_pieceSign, g0_pieceFrom, g0_runFrom, g0_runLong, g0_runPiece)
        else
          (fX12_shared_8 N g0_all p1 K) (x2 + (1 : Int32)) (x3 + (1 : Int32)) v0_turns v0_pieces v0_signs v0_runs g0_turnWord g0_turnFrom g0_pieceSign g0_pieceFrom g0_runFrom g0_runLong g0_runPiece
def fX12_shared (N : Nat) (v0_turns : Int32) (v0_pieces : Int32) (v0_signs : Int32) (v0_runs : Int32) (g0_all : Nat → Int32) (g0_turnWord : Nat → Int32) (g0_turnFrom : Nat → Int32) (g0_pieceSign : Nat → Int32) (g0_pieceFrom : Nat → Int32) (g0_runFrom : Nat → Int32) (g0_runLong : Nat → Int32) (g0_runPiece : Nat → Int32) (p1 : Int32) : Option (Int32 × Int32 × Int32 × Int32 × Int32 × (Nat → Int32) × (Nat → Int32) × (Nat → Int32) × (Nat → Int32) × (Nat → Int32) × (Nat → Int32) × (Nat → Int32)) :=
  Option.bind (fX12_laysAll N v0_turns v0_pieces v0_signs v0_runs g0_all g0_turnWord g0_turnFrom g0_pieceSign g0_pieceFrom g0_runFrom g0_runLong g0_runPiece) fun r1 =>
  fX12_shared_8 N g0_all p1 N (0 : Int32) (0 : Int32) r1.1 r1.2.1 r1.2.2.1 r1.2.2.2.1 r1.2.2.2.2.1 r1.2.2.2.2.2.1 r1.2.2.2.2.2.2.1 r1.2.2.2.2.2.2.2.1 r1.2.2.2.2.2.2.2.2.1 r1.2.2.2.2.2.2.2.2.2.1 r1.2.2.2.2.2.2.2.2.2.2
set_option maxHeartbeats 4000000 in
set_option maxRecDepth 100000 in
theorem mX12_shared (l : Launch) (D : zG) (a0 : Nat) (a0_all : Nat) (a0_tape : Nat) (a0_isImage : Nat) (a0_turnWord : Nat) (a0_turnFrom : Nat) (a0_pieceSign : Nat) (a0_pieceFrom : Nat) (a0_runFrom : Nat) (a0_runLong : Nat) (a0_runPiece : Nat) (a0_alike : Nat) (a0_stood : Nat) (sz : Nat)  (v0_taped : Int32) (v0_faultKind : Int32) (v0_faultPlace : Int32) (v0_undos : Int32) (v0_turns : Int32) (v0_pieces : Int32) (v0_signs : Int32) (v0_runs : Int32) (g0_all : Nat → Int32) (g0_turnWord : Nat → Int32) (g0_turnFrom : Nat → Int32) (g0_pieceSign : Nat → Int32) (g0_pieceFrom : Nat → Int32) (g0_runFrom : Nat → Int32) (g0_runLong : Nat → Int32) (g0_runPiece : Nat → Int32) (p1 : Int32) (N : Nat) (res : Int32 × Int32 × Int32 × Int32 × Int32 × (Nat → Int32) × (Nat → Int32) × (Nat → Int32) × (Nat → Int32) × (Nat → Int32) × (Nat → Int32) × (Nat → Int32)) (hf : fX12_shared N v0_turns v0_pieces v0_signs v0_runs g0_all g0_turnWord g0_turnFrom g0_pieceSign g0_pieceFrom g0_runFrom g0_runLong g0_runPiece p1 = some res) : Met l yX12_shared wsX12_shared ({ frames := 5, cells := 0, slots := 0, locals := 118 } : Room) (va_Pc [.ref a0, .int p1] (zW D sz [(a0, .inr (9, [.ref a0_all, .ref a0_tape, .ref a0_isImage, .int v0_taped, .int v0_faultKind, .int v0_faultPlace, .int v0_undos, .ref a0_turnWord, .ref a0_turnFrom, .int v0_turns, .ref a0_pieceSign, .ref a0_pieceFrom, .int v0_pieces, .int v0_signs, .ref a0_runFrom, .ref a0_runLong, .ref a0_runPiece, .int v0_runs, .ref a0_alike, .ref a0_stood])), (a0_all, .inl (D.2 1, 5228, .inl g0_all)), (a0_turnWord, .inl (D.2 1, 320, .inl g0_turnWord)), (a0_turnFrom, .inl (D.2 1, 320, .inl g0_turnFrom)), (a0_pieceSign, .inl (D.2 1, 40, .inl g0_pieceSign)), (a0_pieceFrom, .inl (D.2 1, 14, .inl g0_pieceFrom)), (a0_runFrom, .inl (D.2 1, 40, .inl g0_runFrom)), (a0_runLong, .inl (D.2 1, 40, .inl g0_runLong)), (a0_runPiece, .inl (D.2 1, 40, .inl g0_runPiece))])) (va_Qi (fun r (_ : Unit) => r = res.1) (fun _ => zB D (va_A [(a0, .inr (9, [.ref a0_all, .ref a0_tape, .ref a0_isImage, .int v0_taped, .int v0_faultKind, .int v0_faultPlace, .int v0_undos, .ref a0_turnWord, .ref a0_turnFrom, .int v0_turns, .ref a0_pieceSign, .ref a0_pieceFrom, .int v0_pieces, .int v0_signs, .ref a0_runFrom, .ref a0_runLong, .ref a0_runPiece, .int v0_runs, .ref a0_alike, .ref a0_stood])), (a0_all, .inl (D.2 1, 5228, .inl g0_all)), (a0_turnWord, .inl (D.2 1, 320, .inl g0_turnWord)), (a0_turnFrom, .inl (D.2 1, 320, .inl g0_turnFrom)), (a0_pieceSign, .inl (D.2 1, 40, .inl g0_pieceSign)), (a0_pieceFrom, .inl (D.2 1, 14, .inl g0_pieceFrom)), (a0_runFrom, .inl (D.2 1, 40, .inl g0_runFrom)), (a0_runLong, .inl (D.2 1, 40, .inl g0_runLong)), (a0_runPiece, .inl (D.2 1, 40, .inl g0_runPiece))] sz) [(a0, .inr (9, [.ref a0_all, .ref a0_tape, .ref a0_isImage, .int v0_taped, .int v0_faultKind, .int v0_faultPlace, .int v0_undos, .ref a0_turnWord, .ref a0_turnFrom, .int res.2.1, .ref a0_pieceSign, .ref a0_pieceFrom, .int res.2.2.1, .int res.2.2.2.1, .ref a0_runFrom, .ref a0_runLong, .ref a0_runPiece, .int res.2.2.2.2.1, .ref a0_alike, .ref a0_stood])), (a0_all, .inl (D.2 1, 5228, .inl g0_all)), (a0_turnWord, .inl (D.2 1, 320, .inl res.2.2.2.2.2.1)), (a0_turnFrom, .inl (D.2 1, 320, .inl res.2.2.2.2.2.2.1)), (a0_pieceSign, .inl (D.2 1, 40, .inl res.2.2.2.2.2.2.2.1)), (a0_pieceFrom, .inl (D.2 1, 14, .inl res.2.2.2.2.2.2.2.2.1)), (a0_runFrom, .inl (D.2 1, 40, .inl res.2.2.2.2.2.2.2.2.2.1)), (a0_runLong, .inl (D.2 1, 40, .inl res.2.2.2.2.2.2.2.2.2.2.1)), (a0_runPiece, .inl (D.2 1, 40, .inl res.2.2.2.2.2.2.2.2.2.2.2))]) (va_A [(a0, .inr (9, [.ref a0_all, .ref a0_tape, .ref a0_isImage, .int v0_taped, .int v0_faultKind, .int v0_faultPlace, .int v0_undos, .ref a0_turnWord, .ref a0_turnFrom, .int v0_turns, .ref a0_pieceSign, .ref a0_pieceFrom, .int v0_pieces, .int v0_signs, .ref a0_runFrom, .ref a0_runLong, .ref a0_runPiece, .int v0_runs, .ref a0_alike, .ref a0_stood])), (a0_all, .inl (D.2 1, 5228, .inl g0_all)), (a0_turnWord, .inl (D.2 1, 320, .inl g0_turnWord)), (a0_turnFrom, .inl (D.2 1, 320, .inl g0_turnFrom)), (a0_pieceSign, .inl (D.2 1, 40, .inl g0_pieceSign)), (a0_pieceFrom, .inl (D.2 1, 14, .inl g0_pieceFrom)), (a0_runFrom, .inl (D.2 1, 40, .inl g0_runFrom)), (a0_runLong, .inl (D.2 1, 40, .inl g0_runLong)), (a0_runPiece, .inl (D.2 1, 40, .inl g0_runPiece))] sz)) 0 0 (va_A [(a0, .inr (9, [.ref a0_all, .ref a0_tape, .ref a0_isImage, .int v0_taped, .int v0_faultKind, .int v0_faultPlace, .int v0_undos, .ref a0_turnWord, .ref a0_turnFrom, .int v0_turns, .ref a0_pieceSign, .ref a0_pieceFrom, .int v0_pieces, .int v0_signs, .ref a0_runFrom, .ref a0_runLong, .ref a0_runPiece, .int v0_runs, .ref a0_alike, .ref a0_stood])), (a0_all, .inl (D.2 1, 5228, .inl g0_all)), (a0_turnWord, .inl (D.2 1, 320, .inl g0_turnWord)), (a0_turnFrom, .inl (D.2 1, 320, .inl g0_turnFrom)), (a0_pieceSign, .inl (D.2 1, 40, .inl g0_pieceSign)), (a0_pieceFrom, .inl (D.2 1, 14, .inl g0_pieceFrom)), (a0_runFrom, .inl (D.2 1, 40, .inl g0_runFrom)), (a0_runLong, .inl (D.2 1, 40, .inl g0_runLong)), (a0_runPiece, .inl (D.2 1, 40, .inl g0_runPiece))] sz) := by
  refine Met.ofW (cc := cX12_shared) (maxL := 4) (ret := (some .int)) (by decide) rfl ?_
  intro p e s m args below meth c s₁ B hml hv
  obtain ⟨rfl, hsz, hP, hK, hD0⟩ := hv
  have hx := B.exec
  have hb := B.bytes
  have hr := B.returns
  have hts := atoms_spec (ws := wsX12_shared) B.pre
  have hown : s.vm.findClass RX12 = some m.cls := findClass_of_methodNamed B.named
  have hlocks := B.notSynchronized
  subst hsz
  have hD := hD0.self (sz := s.heap.size)
  generalize hAe : va_A [(a0, .inr (9, [.ref a0_all, .ref a0_tape, .ref a0_isImage, .int v0_taped, .int v0_faultKind, .int v0_faultPlace, .int v0_undos, .ref a0_turnWord, .ref a0_turnFrom, .int v0_turns, .ref a0_pieceSign, .ref a0_pieceFrom, .int v0_pieces, .int v0_signs, .ref a0_runFrom, .ref a0_runLong, .ref a0_runPiece, .int v0_runs, .ref a0_alike, .ref a0_stood])), (a0_all, .inl (D.2 1, 5228, .inl g0_all)), (a0_turnWord, .inl (D.2 1, 320, .inl g0_turnWord)), (a0_turnFrom, .inl (D.2 1, 320, .inl g0_turnFrom)), (a0_pieceSign, .inl (D.2 1, 40, .inl g0_pieceSign)), (a0_pieceFrom, .inl (D.2 1, 14, .inl g0_pieceFrom)), (a0_runFrom, .inl (D.2 1, 40, .inl g0_runFrom)), (a0_runLong, .inl (D.2 1, 40, .inl g0_runLong)), (a0_runPiece, .inl (D.2 1, 40, .inl g0_runPiece))] s.heap.size = A at hD ⊢
  have hA : ∀ q : Nat, s.heap.size ≤ q → A q := fun q h => by rw [← hAe]; exact Or.inr h
  have l7 := zat hts 1 (w := .fieldLink RX12 7 "TurnedWordsModel" "all" "[I") rfl
  have hwX12 : ∀ w ∈ u_ws RX12 TX12 20, w ∈ wsX12_shared := fun w h => List.mem_cons_of_mem _ (List.mem_append_right _ h)
  have hl := lv_entry ([.ref a0, .int p1]) (n := 4) (Nat.le_of_ble_eq_true rfl)
  rw [lg_entry_eq]
  generalize (lg_sl ([.ref a0, .int p1]) ++ List.replicate (4 - (lg_sl ([.ref a0, .int p1])).length) Slot.unset).toArray = ls at hl ⊢
  have hl : lv_has ls 4 [(0, .ref a0), (1, .int p1)] := hl
  refine zStart (A := A) hP (fun Q0 H locs hQ hP hS => ?_)
  have k8 : ∀ K : Nat, ∀ (x2 : Int32) (x3 : Int32) (v0_turns : Int32) (v0_pieces : Int32) (v0_signs : Int32) (v0_runs : Int32) (g0_turnWord : Nat → Int32) (g0_turnFrom : Nat → Int32) (g0_pieceSign : Nat → Int32) (g0_pieceFrom : Nat → Int32) (g0_runFrom : Nat → Int32) (g0_runLong : Nat → Int32) (g0_runPiece : Nat → Int32) (H : Heap) (locs : List Loc) (ls : Array Slot), fX12_shared_8 N g0_all p1 K x2 x3 v0_turns v0_pieces v0_signs v0_runs g0_turnWord g0_turnFrom g0_pieceSign g0_pieceFrom g0_runFrom g0_runLong g0_runPiece = some res → va_P D.1 vwCl [(a0, .inr (9, [.ref a0_all, .ref a0_tape, .ref a0_isImage, .int v0_taped, .int v0_faultKind, .int v0_faultPlace, .int v0_undos, .ref a0_turnWord, .ref a0_turnFrom, .int v0_turns, .ref a0_pieceSign, .ref a0_pieceFrom, .int v0_pieces, .int v0_signs, .ref a0_runFrom, .ref a0_runLong, .ref a0_runPiece, .int v0_runs, .ref a0_alike, .ref a0_stood])), (a0_all, .inl (D.2 1, 5228, .inl g0_all)), (a0_turnWord, .inl (D.2 1, 320, .inl g0_turnWord)), (a0_turnFrom, .inl (D.2 1, 320, .inl g0_turnFrom)), (a0_pieceSign, .inl (D.2 1, 40, .inl g0_pieceSign)), (a0_pieceFrom, .inl (D.2 1, 14, .inl g0_pieceFrom)), (a0_runFrom, .inl (D.2 1, 40, .inl g0_runFrom)), (a0_runLong, .inl (D.2 1, 40, .inl g0_runLong)), (a0_runPiece, .inl (D.2 1, 40, .inl g0_runPiece))] H → va_D A [(a0, .inr (9, [.ref a0_all, .ref a0_tape, .ref a0_isImage, .int v0_taped, .int v0_faultKind, .int v0_faultPlace, .int v0_undos, .ref a0_turnWord, .ref a0_turnFrom, .int v0_turns, .ref a0_pieceSign, .ref a0_pieceFrom, .int v0_pieces, .int v0_signs, .ref a0_runFrom, .ref a0_runLong, .ref a0_runPiece, .int v0_runs, .ref a0_alike, .ref a0_stood])), (a0_all, .inl (D.2 1, 5228, .inl g0_all)), (a0_turnWord, .inl (D.2 1, 320, .inl g0_turnWord)), (a0_turnFrom, .inl (D.2 1, 320, .inl g0_turnFrom)), (a0_pieceSign, .inl (D.2 1, 40, .inl g0_pieceSign)), (a0_pieceFrom, .inl (D.2 1, 14, .inl g0_pieceFrom)), (a0_runFrom, .inl (D.2 1, 40, .inl g0_runFrom)), (a0_runLong, .inl (D.2 1, 40, .inl g0_runLong)), (a0_runPiece, .inl (D.2 1, 40, .inl g0_runPiece))] → va_S A s.heap H locs → lv_has ls 4 [(0, .ref a0), (1, .int p1), (2, .int x2), (3, .int x3)] → W p l e (headSpec wsX12_shared ({ frames := 5, cells := 0, slots := 0, locals := 118 } : Room)).room s m ([.ref a0, .int p1] : List Value).toArray below meth c H locs 0 0 Q0 (F0 m 8 ls []) := by
    intro K
    induction K with
    | zero =>
      intro x2 x3 v0_turns v0_pieces v0_signs v0_runs g0_turnWord g0_turnFrom g0_pieceSign g0_pieceFrom g0_runFrom g0_runLong g0_runPiece H locs ls hf
      rw [fX12_shared_8] at hf
      cases hf
    | succ K ih =>
      intro x2 x3 v0_turns v0_pieces v0_signs v0_runs g0_turnWord g0_turnFrom g0_pieceSign g0_pieceFrom g0_runFrom g0_runLong g0_runPiece H locs ls hf hP hD hS hl
      rw [fX12_shared_8] at hf
      refine lv_iload_n hx hb dX12_shared_8 rfl (lv_at hl 3 rfl) ?_
      refine lv_aload_n hx hb dX12_shared_9 rfl (lv_at hl 0 rfl) ?_
      refine va_get (D := D.1) (ci := 9) (v := .ref a0_all) (C := RX12) (T := TX12) (N := 20) hx hb hts hwX12 hown hK.1 hP 0 rfl rfl 0 (by decide) l7 (fun _ h9 => h9) rfl dX12_shared_10 ?_
      refine lv_iconst (v := 0) hx hb dX12_shared_13 (by decide) ?_
      obtain ⟨h_2, hf⟩ := gd hf
      refine va_iald hx hb hK.1 hP 1 1 rfl rfl h_2 dX12_shared_14 ?_
      refine lv_icmp_ge (tgt := 45) hx hb dX12_shared_15 (by decide) (fun c_3 => ?_) (fun c_3 => ?_)
      · replace hf := ip c_3 hf
        refine lv_iconst (v := -1) hx hb dX12_shared_45 (by decide) ?_
        have he := Option.some.inj hf
        rw [hQ]
        exact W.iret (v := (-1 : Int32)) hx hb hr (fun t ht hW => by rw [← he]; exact ⟨⟨(-1 : Int32), (), rfl, rfl, by rw [ht]; exact hP, hD⟩, hS.F ht⟩) hS.2.2 dX12_shared_46
      · replace hf := im c_3 hf
        refine lv_aload_n hx hb dX12_shared_18 rfl (lv_at hl 0 rfl) ?_
        refine lv_iload_n hx hb dX12_shared_19 rfl (lv_at hl 3 rfl) ?_
        obtain ⟨r4, hr4, hf⟩ := bd hf
        refine zVz (As := [.int x3]) (rest := []) (ci := 9) (q0 := 0) (wn := [(a0, .inr (9, [.ref a0_all, .ref a0_tape, .ref a0_isImage, .int v0_taped, .int v0_faultKind, .int v0_faultPlace, .int v0_undos, .ref a0_turnWord, .ref a0_turnFrom, .int v0_turns, .ref a0_pieceSign, .ref a0_pieceFrom, .int v0_pieces, .int v0_signs, .ref a0_runFrom, .ref a0_runLong, .ref a0_runPiece, .int v0_runs, .ref a0_alike, .ref a0_stood])), (a0_all, .inl (D.2 1, 5228, .inl g0_all)), (a0_turnWord, .inl (D.2 1, 320, .inl g0_turnWord)), (a0_turnFrom, .inl (D.2 1, 320, .inl g0_turnFrom)), (a0_pieceSign, .inl (D.2 1, 40, .inl g0_pieceSign)), (a0_pieceFrom, .inl (D.2 1, 14, .inl g0_pieceFrom)), (a0_runFrom, .inl (D.2 1, 40, .inl g0_runFrom)), (a0_runLong, .inl (D.2 1, 40, .inl g0_runLong)), (a0_runPiece, .inl (D.2 1, 40, .inl g0_runPiece))]) ⟨hx, hb, hml, hown, hts⟩ (mX12_isShared l D a0 a0_all a0_tape a0_isImage a0_turnWord a0_turnFrom a0_pieceSign a0_pieceFrom a0_runFrom a0_runLong a0_runPiece a0_alike a0_stood H.size v0_taped v0_faultKind v0_faultPlace v0_undos v0_turns v0_pieces v0_signs v0_runs g0_all g0_turnWord g0_turnFrom g0_pieceSign g0_runFrom g0_runLong x3 N r4 hr4) (cwV 1 hts gX12_shared_X12_isShared rfl rfl rfl (by decide +kernel) ⟨Nat.le_of_ble_eq_true rfl, Nat.le_of_ble_eq_true rfl⟩) hK hP hD hS hA [0, 1, 2, 3, 4, 6, 7] [5, 8] [2, 3, 4, 5, 6, 0, 7, 8, 1] rfl (by decide) rfl (by decide) (by decide) rfl (by decide) rfl rfl rfl hl.1 rfl (Nat.le_of_ble_eq_true rfl) dX12_shared_20 ⟨Nat.zero_le _, Nat.zero_le _⟩ (fun H locs hb_5 hP hD hS => ?_)
        refine lv_if_ne (tgt := 29) hx hb dX12_shared_23 (by decide) (fun c_6 => ?_) (fun c_6 => ?_)
        · replace hf := im c_6 hf
          refine lv_iload_n hx hb dX12_shared_29 rfl (lv_at hl 2 rfl) ?_
          refine lv_iload_n hx hb dX12_shared_30 rfl (lv_at hl 1 rfl) ?_
          refine lv_icmp_ne (tgt := 36) hx hb dX12_shared_31 (by decide) (fun c_7 => ?_) (fun c_7 => ?_)
          · replace hf := im c_7 hf
            refine lv_iinc (v := (x2 + (1 : Int32))) (lv' := [(2, .int (x2 + (1 : Int32))), (0, .ref a0), (1, .int p1), (3, .int x3)]) hx hb dX12_shared_36 hl (k := 2) rfl rfl (by decide) rfl (fun ls hl => ?_)
            refine lv_iinc (v := (x3 + (1 : Int32))) (lv' := [(3, .int (x3 + (1 : Int32))), (2, .int (x2 + (1 : Int32))), (0, .ref a0), (1, .int p1)]) hx hb dX12_shared_39 hl (k := 3) rfl rfl (by decide) rfl (fun ls hl => ?_)
            refine lv_goto (tgt := 8) hx hb dX12_shared_42 (by decide) ?_
            exact ih (x2 + (1 : Int32)) (x3 + (1 : Int32)) v0_turns v0_pieces v0_signs v0_runs g0_turnWord g0_turnFrom g0_pieceSign g0_pieceFrom g0_runFrom g0_runLong g0_runPiece H locs ls hf hP hD hS (lv_sub hl [2, 3, 1, 0] rfl)
          · replace hf := ip c_7 hf
            refine lv_iload_n hx hb dX12_shared_34 rfl (lv_at hl 3 rfl) ?_
            have he := Option.some.inj hf
            rw [hQ]
            exact W.iret (v := x3) hx hb hr (fun t ht hW => by rw [← he]; exact ⟨⟨x3, (), rfl, rfl, by rw [ht]; exact hP, hD⟩, hS.F ht⟩) hS.2.2 dX12_shared_35
        · replace hf := ip c_6 hf
          refine lv_goto (tgt := 39) hx hb dX12_shared_26 (by decide) ?_
          refine lv_iinc (v := (x3 + (1 : Int32))) (lv' := [(3, .int (x3 + (1 : Int32))), (0, .ref a0), (1, .int p1), (2, .int x2)]) hx hb dX12_shared_39 hl (k := 3) rfl rfl (by decide) rfl (fun ls hl => ?_)
          refine lv_goto (tgt := 8) hx hb dX12_shared_42 (by decide) ?_
          exact ih x2 (x3 + (1 : Int32)) v0_turns v0_pieces v0_signs v0_runs g0_turnWord g0_turnFrom g0_pieceSign g0_pieceFrom g0_runFrom g0_runLong g0_runPiece H locs ls hf hP hD hS (lv_sub hl [1, 2, 3, 0] rfl)
  unfold fX12_shared at hf
  refine lv_aload_n hx hb dX12_shared_0 rfl (lv_at hl 0 rfl) ?_
  obtain ⟨r1, hr1, hf⟩ := bd hf
  refine zVv (As := []) (rest := []) (ci := 9) (q0 := 0) (wn := [(a0, .inr (9, [.ref a0_all, .ref a0_tape, .ref a0_isImage, .int v0_taped, .int v0_faultKind, .int v0_faultPlace, .int v0_undos, .ref a0_turnWord, .ref a0_turnFrom, .int r1.1, .ref a0_pieceSign, .ref a0_pieceFrom, .int r1.2.1, .int r1.2.2.1, .ref a0_runFrom, .ref a0_runLong, .ref a0_runPiece, .int r1.2.2.2.1, .ref a0_alike, .ref a0_stood])), (a0_all, .inl (D.2 1, 5228, .inl g0_all)), (a0_turnWord, .inl (D.2 1, 320, .inl r1.2.2.2.2.1)), (a0_turnFrom, .inl (D.2 1, 320, .inl r1.2.2.2.2.2.1)), (a0_pieceSign, .inl (D.2 1, 40, .inl r1.2.2.2.2.2.2.1)), (a0_pieceFrom, .inl (D.2 1, 14, .inl r1.2.2.2.2.2.2.2.1)), (a0_runFrom, .inl (D.2 1, 40, .inl r1.2.2.2.2.2.2.2.2.1)), (a0_runLong, .inl (D.2 1, 40, .inl r1.2.2.2.2.2.2.2.2.2.1)), (a0_runPiece, .inl (D.2 1, 40, .inl r1.2.2.2.2.2.2.2.2.2.2))]) ⟨hx, hb, hml, hown, hts⟩ (mX12_laysAll l D a0 a0_all a0_tape a0_isImage a0_turnWord a0_turnFrom a0_pieceSign a0_pieceFrom a0_runFrom a0_runLong a0_runPiece a0_alike a0_stood H.size v0_taped v0_faultKind v0_faultPlace v0_undos v0_turns v0_pieces v0_signs v0_runs g0_all g0_turnWord g0_turnFrom g0_pieceSign g0_pieceFrom g0_runFrom g0_runLong g0_runPiece N r1 hr1) (cwV 0 hts gX12_shared_X12_laysAll rfl rfl rfl (by decide +kernel) ⟨Nat.le_of_ble_eq_true rfl, Nat.le_of_ble_eq_true rfl⟩) hK hP hD hS hA [0, 1, 2, 3, 4, 5, 6, 7, 8] [] [0, 1, 2, 3, 4, 5, 6, 7, 8] rfl (by decide) rfl (by decide) (by decide) rfl (by decide) rfl rfl rfl hl.1 rfl (Nat.le_of_ble_eq_true rfl) dX12_shared_1 ⟨Nat.zero_le _, Nat.zero_le _⟩ (fun H locs hP hD hS => ?_)
  refine lv_iconst (v := 0) hx hb dX12_shared_4 (by decide) ?_
  refine lv_istore_n (lv' := [(2, .int (0 : Int32)), (0, .ref a0), (1, .int p1)]) hx hb dX12_shared_5 rfl hl (by decide) rfl (fun ls hl => ?_)
  refine lv_iconst (v := 0) hx hb dX12_shared_6 (by decide) ?_
  refine lv_istore_n (lv' := [(3, .int (0 : Int32)), (2, .int (0 : Int32)), (0, .ref a0), (1, .int p1)]) hx hb dX12_shared_7 rfl hl (by decide) rfl (fun ls hl => ?_)
  exact k8 N (0 : Int32) (0 : Int32) r1.1 r1.2.1 r1.2.2.1 r1.2.2.2.1 r1.2.2.2.2.1 r1.2.2.2.2.2.1 r1.2.2.2.2.2.2.1 r1.2.2.2.2.2.2.2.1 r1.2.2.2.2.2.2.2.2.1 r1.2.2.2.2.2.2.2.2.2.1 r1.2.2.2.2.2.2.2.2.2.2 H locs ls hf hP hD hS (lv_sub hl [2, 3, 1, 0] rfl)
