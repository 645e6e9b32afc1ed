def fX12_narrowest_4 (N : Nat) (v0_turns : Int32) (v0_runs : Int32) (g0_all : Nat → Int32) (g0_turnWord : Nat → Int32) (g0_turnFrom : Nat → Int32) (g0_pieceSign : Nat → Int32) (g0_runFrom : Nat → Int32) (g0_runLong : Nat → Int32) : Nat → Int32 → Int32 → Option (Int32)
  | 0, _, _ => none
  | K + 1, x1, x2 =>
    if v0_runs ≤ x2 then
      some (x1)
    else
      Option.bind (fX12_rangeOf N v0_turns g0_all g0_turnWord g0_turnFrom g0_pieceSign g0_runFrom g0_runLong x2) fun r2 =>
      Option.bind (fX12_rangeOf N v0_turns g0_all g0_turnWord g0_turnFrom g0_pieceSign g0_runFrom g0_runLong x1) fun r3 =>
      if r3 ≤ r2 then
        (fX12_narrowest_4 N v0_turns v0_runs g0_all g0_turnWord g0_turnFrom g0_pieceSign g0_runFrom g0_runLong K) x1 (x2 + (1 : Int32))
      else
        (fX12_narrowest_4 N v0_turns v0_runs g0_all g0_turnWord g0_turnFrom g0_pieceSign g0_runFrom g0_runLong K) x2 (x2 + (1 : Int32))
def fX12_narrowest (N : Nat) (v0_turns : Int32) (v0_runs : Int32) (g0_all : Nat → Int32) (g0_turnWord : Nat → Int32) (g0_turnFrom : Nat → Int32) (g0_pieceSign : Nat → Int32) (g0_runFrom : Nat → Int32) (g0_runLong : Nat → Int32) : Option (Int32) :=
  fX12_narrowest_4 N v0_turns v0_runs g0_all g0_turnWord g0_turnFrom g0_pieceSign g0_runFrom g0_runLong N (0 : Int32) (1 : Int32)
set_option maxHeartbeats 4000000 in
set_option maxRecDepth 100000 in
theorem mX12_narrowest (l : Launch) (D : zG) (a0 : Nat) (a0_all : Nat) (a0_tape : Nat) (a0_isImage : Nat) (a0_turnWord : Nat) (a0_turnFrom : Nat) (a0_pieceSign : Nat) (a0_pieceFrom : Nat) (a0_runFrom : Nat) (a0_runLong : Nat) (a0_runPiece : Nat) (a0_alike : Nat) (a0_stood : Nat) (sz : Nat)  (v0_taped : Int32) (v0_faultKind : Int32) (v0_faultPlace : Int32) (v0_undos : Int32) (v0_turns : Int32) (v0_pieces : Int32) (v0_signs : Int32) (v0_runs : Int32) (g0_all : Nat → Int32) (g0_turnWord : Nat → Int32) (g0_turnFrom : Nat → Int32) (g0_pieceSign : Nat → Int32) (g0_runFrom : Nat → Int32) (g0_runLong : Nat → Int32)  (N : Nat) (res : Int32) (hf : fX12_narrowest N v0_turns v0_runs g0_all g0_turnWord g0_turnFrom g0_pieceSign g0_runFrom g0_runLong = some res) : Met l yX12_narrowest wsX12_narrowest ({ frames := 3, cells := 0, slots := 0, locals := 71 } : Room) (va_Pc [.ref a0] (zW D sz [(a0, .inr (9, [.ref a0_all, .ref a0_tape, .ref a0_isImage, .int v0_taped, .int v0_faultKind, .int v0_faultPlace, .int v0_undos, .ref a0_turnWord, .ref a0_turnFrom, .int v0_turns, .ref a0_pieceSign, .ref a0_pieceFrom, .int v0_pieces, .int v0_signs, .ref a0_runFrom, .ref a0_runLong, .ref a0_runPiece, .int v0_runs, .ref a0_alike, .ref a0_stood])), (a0_all, .inl (D.2 1, 5228, .inl g0_all)), (a0_turnWord, .inl (D.2 1, 320, .inl g0_turnWord)), (a0_turnFrom, .inl (D.2 1, 320, .inl g0_turnFrom)), (a0_pieceSign, .inl (D.2 1, 40, .inl g0_pieceSign)), (a0_runFrom, .inl (D.2 1, 40, .inl g0_runFrom)), (a0_runLong, .inl (D.2 1, 40, .inl g0_runLong))])) (va_Qi (fun r (_ : Unit) => r = res) (fun _ => zB D (va_A [(a0, .inr (9, [.ref a0_all, .ref a0_tape, .ref a0_isImage, .int v0_taped, .int v0_faultKind, .int v0_faultPlace, .int v0_undos, .ref a0_turnWord, .ref a0_turnFrom, .int v0_turns, .ref a0_pieceSign, .ref a0_pieceFrom, .int v0_pieces, .int v0_signs, .ref a0_runFrom, .ref a0_runLong, .ref a0_runPiece, .int v0_runs, .ref a0_alike, .ref a0_stood])), (a0_all, .inl (D.2 1, 5228, .inl g0_all)), (a0_turnWord, .inl (D.2 1, 320, .inl g0_turnWord)), (a0_turnFrom, .inl (D.2 1, 320, .inl g0_turnFrom)), (a0_pieceSign, .inl (D.2 1, 40, .inl g0_pieceSign)), (a0_runFrom, .inl (D.2 1, 40, .inl g0_runFrom)), (a0_runLong, .inl (D.2 1, 40, .inl g0_runLong))] sz) [(a0, .inr (9, [.ref a0_all, .ref a0_tape, .ref a0_isImage, .int v0_taped, .int v0_faultKind, .int v0_faultPlace, .int v0_undos, .ref a0_turnWord, .ref a0_turnFrom, .int v0_turns, .ref a0_pieceSign, .ref a0_pieceFrom, .int v0_pieces, .int v0_signs, .ref a0_runFrom, .ref a0_runLong, .ref a0_runPiece, .int v0_runs, .ref a0_alike, .ref a0_stood])), (a0_all, .inl (D.2 1, 5228, .inl g0_all)), (a0_turnWord, .inl (D.2 1, 320, .inl g0_turnWord)), (a0_turnFrom, .inl (D.2 1, 320, .inl g0_turnFrom)), (a0_pieceSign, .inl (D.2 1, 40, .inl g0_pieceSign)), (a0_runFrom, .inl (D.2 1, 40, .inl g0_runFrom)), (a0_runLong, .inl (D.2 1, 40, .inl g0_runLong))]) (va_A [(a0, .inr (9, [.ref a0_all, .ref a0_tape, .ref a0_isImage, .int v0_taped, .int v0_faultKind, .int v0_faultPlace, .int v0_undos, .ref a0_turnWord, .ref a0_turnFrom, .int v0_turns, .ref a0_pieceSign, .ref a0_pieceFrom, .int v0_pieces, .int v0_signs, .ref a0_runFrom, .ref a0_runLong, .ref a0_runPiece, .int v0_runs, .ref a0_alike, .ref a0_stood])), (a0_all, .inl (D.2 1, 5228, .inl g0_all)), (a0_turnWord, .inl (D.2 1, 320, .inl g0_turnWord)), (a0_turnFrom, .inl (D.2 1, 320, .inl g0_turnFrom)), (a0_pieceSign, .inl (D.2 1, 40, .inl g0_pieceSign)), (a0_runFrom, .inl (D.2 1, 40, .inl g0_runFrom)), (a0_runLong, .inl (D.2 1, 40, .inl g0_runLong))] sz)) 0 0 (va_A [(a0, .inr (9, [.ref a0_all, .ref a0_tape, .ref a0_isImage, .int v0_taped, .int v0_faultKind, .int v0_faultPlace, .int v0_undos, .ref a0_turnWord, .ref a0_turnFrom, .int v0_turns, .ref a0_pieceSign, .ref a0_pieceFrom, .int v0_pieces, .int v0_signs, .ref a0_runFrom, .ref a0_runLong, .ref a0_runPiece, .int v0_runs, .ref a0_alike, .ref a0_stood])), (a0_all, .inl (D.2 1, 5228, .inl g0_all)), (a0_turnWord, .inl (D.2 1, 320, .inl g0_turnWord)), (a0_turnFrom, .inl (D.2 1, 320, .inl g0_turnFrom)), (a0_pieceSign, .inl (D.2 1, 40, .inl g0_pieceSign)), (a0_runFrom, .inl (D.2 1, 40, .inl g0_runFrom)), (a0_runLong, .inl (D.2 1, 40, .inl g0_runLong))] sz) := by
  refine Met.ofW (cc := cX12_narrowest) (maxL := 3) (ret := (some .int)) (by decide) rfl ?_
  intro p e s m args below meth c s₁ B hml hv
  obtain ⟨rfl, hsz, hP, hK, hD0⟩ := hv
  have hx := B.exec
  have hb := B.bytes
  have hr := B.returns
  have hts := atoms_spec (ws := wsX12_narrowest) B.pre
  have hown : s.vm.findClass RX12 = some m.cls := findClass_of_methodNamed B.named
  have hlocks := B.notSynchronized
  subst hsz
  have hD := hD0.self (sz := s.heap.size)
  generalize hAe : va_A [(a0, .inr (9, [.ref a0_all, .ref a0_tape, .ref a0_isImage, .int v0_taped, .int v0_faultKind, .int v0_faultPlace, .int v0_undos, .ref a0_turnWord, .ref a0_turnFrom, .int v0_turns, .ref a0_pieceSign, .ref a0_pieceFrom, .int v0_pieces, .int v0_signs, .ref a0_runFrom, .ref a0_runLong, .ref a0_runPiece, .int v0_runs, .ref a0_alike, .ref a0_stood])), (a0_all, .inl (D.2 1, 5228, .inl g0_all)), (a0_turnWord, .inl (D.2 1, 320, .inl g0_turnWord)), (a0_turnFrom, .inl (D.2 1, 320, .inl g0_turnFrom)), (a0_pieceSign, .inl (D.2 1, 40, .inl g0_pieceSign)), (a0_runFrom, .inl (D.2 1, 40, .inl g0_runFrom)), (a0_runLong, .inl (D.2 1, 40, .inl g0_runLong))] s.heap.size = A at hD ⊢
  have hA : ∀ q : Nat, s.heap.size ≤ q → A q := fun q h => by rw [← hAe]; exact Or.inr h
  have l122 := zat hts 1 (w := .fieldLink RX12 122 "TurnedWordsModel" "runs" "I") rfl
  have hwX12 : ∀ w ∈ u_ws RX12 TX12 20, w ∈ wsX12_narrowest := fun w h => List.mem_cons_of_mem _ (List.mem_append_right _ h)
  have hl := lv_entry ([.ref a0]) (n := 3) (Nat.le_of_ble_eq_true rfl)
  rw [lg_entry_eq]
  generalize (lg_sl ([.ref a0]) ++ List.replicate (3 - (lg_sl ([.ref a0])).length) Slot.unset).toArray = ls at hl ⊢
  have hl : lv_has ls 3 [(0, .ref a0)] := hl
  refine zStart (A := A) hP (fun Q0 H locs hQ hP hS => ?_)
  have k4 : ∀ K : Nat, ∀ (x1 : Int32) (x2 : Int32) (H : Heap) (locs : List Loc) (ls : Array Slot), fX12_narrowest_4 N v0_turns v0_runs g0_all g0_turnWord g0_turnFrom g0_pieceSign g0_runFrom g0_runLong K x1 x2 = some res → va_P D.1 vwCl [(a0, .inr (9, [.ref a0_all, .ref a0_tape, .ref a0_isImage, .int v0_taped, .int v0_faultKind, .int v0_faultPlace, .int v0_undos, .ref a0_turnWord, .ref a0_turnFrom, .int v0_turns, .ref a0_pieceSign, .ref a0_pieceFrom, .int v0_pieces, .int v0_signs, .ref a0_runFrom, .ref a0_runLong, .ref a0_runPiece, .int v0_runs, .ref a0_alike, .ref a0_stood])), (a0_all, .inl (D.2 1, 5228, .inl g0_all)), (a0_turnWord, .inl (D.2 1, 320, .inl g0_turnWord)), (a0_turnFrom, .inl (D.2 1, 320, .inl g0_turnFrom)), (a0_pieceSign, .inl (D.2 1, 40, .inl g0_pieceSign)), (a0_runFrom, .inl (D.2 1, 40, .inl g0_runFrom)), (a0_runLong, .inl (D.2 1, 40, .inl g0_runLong))] H → va_D A [(a0, .inr (9, [.ref a0_all, .ref a0_tape, .ref a0_isImage, .int v0_taped, .int v0_faultKind, .int v0_faultPlace, .int v0_undos, .ref a0_turnWord, .ref a0_turnFrom, .int v0_turns, .ref a0_pieceSign, .ref a0_pieceFrom, .int v0_pieces, .int v0_signs, .ref a0_runFrom, .ref a0_runLong, .ref a0_runPiece, .int v0_runs, .ref a0_alike, .ref a0_stood])), (a0_all, .inl (D.2 1, 5228, .inl g0_all)), (a0_turnWord, .inl (D.2 1, 320, .inl g0_turnWord)), (a0_turnFrom, .inl (D.2 1, 320, .inl g0_turnFrom)), (a0_pieceSign, .inl (D.2 1, 40, .inl g0_pieceSign)), (a0_runFrom, .inl (D.2 1, 40, .inl g0_runFrom)), (a0_runLong, .inl (D.2 1, 40, .inl g0_runLong))] → va_S A s.heap H locs → lv_has ls 3 [(0, .ref a0), (1, .int x1), (2, .int x2)] → W p l e (headSpec wsX12_narrowest ({ frames := 3, cells := 0, slots := 0, locals := 71 } : Room)).room s m ([.ref a0] : List Value).toArray below meth c H locs 0 0 Q0 (F0 m 4 ls []) := by
    intro K
    induction K with
    | zero =>
      intro x1 x2 H locs ls hf
      rw [fX12_narrowest_4] at hf
      cases hf
    | succ K ih =>
      intro x1 x2 H locs ls hf hP hD hS hl
      rw [fX12_narrowest_4] at hf
      refine lv_iload_n hx hb dX12_narrowest_4 rfl (lv_at hl 2 rfl) ?_
      refine lv_aload_n hx hb dX12_narrowest_5 rfl (lv_at hl 0 rfl) ?_
      refine va_get (D := D.1) (ci := 9) (v := .int v0_runs) (C := RX12) (T := TX12) (N := 20) hx hb hts hwX12 hown hK.1 hP 0 rfl rfl 17 (by decide) l122 (fun _ h9 => h9) rfl dX12_narrowest_6 ?_
      refine lv_icmp_ge (tgt := 37) hx hb dX12_narrowest_9 (by decide) (fun c_1 => ?_) (fun c_1 => ?_)
      · replace hf := ip c_1 hf
        refine lv_iload_n hx hb dX12_narrowest_37 rfl (lv_at hl 1 rfl) ?_
        have he := Option.some.inj hf
        rw [hQ]
        exact W.iret (v := x1) hx hb hr (fun t ht hW => by rw [← he]; exact ⟨⟨x1, (), rfl, rfl, by rw [ht]; exact hP, hD⟩, hS.F ht⟩) hS.2.2 dX12_narrowest_38
      · replace hf := im c_1 hf
        refine lv_aload_n hx hb dX12_narrowest_12 rfl (lv_at hl 0 rfl) ?_
        refine lv_iload_n hx hb dX12_narrowest_13 rfl (lv_at hl 2 rfl) ?_
        obtain ⟨r2, hr2, hf⟩ := bd hf
        refine zVi (As := [.int x2]) (rest := []) (ci := 9) (q0 := 0) (wn := [(a0, .inr (9, [.ref a0_all, .ref a0_tape, .ref a0_isImage, .int v0_taped, .int v0_faultKind, .int v0_faultPlace, .int v0_undos, .ref a0_turnWord, .ref a0_turnFrom, .int v0_turns, .ref a0_pieceSign, .ref a0_pieceFrom, .int v0_pieces, .int v0_signs, .ref a0_runFrom, .ref a0_runLong, .ref a0_runPiece, .int v0_runs, .ref a0_alike, .ref a0_stood])), (a0_all, .inl (D.2 1, 5228, .inl g0_all)), (a0_turnWord, .inl (D.2 1, 320, .inl g0_turnWord)), (a0_turnFrom, .inl (D.2 1, 320, .inl g0_turnFrom)), (a0_pieceSign, .inl (D.2 1, 40, .inl g0_pieceSign)), (a0_runFrom, .inl (D.2 1, 40, .inl g0_runFrom)), (a0_runLong, .inl (D.2 1, 40, .inl g0_runLong))]) ⟨hx, hb, hml, hown, hts⟩ (mX12_rangeOf l D a0 a0_all a0_tape a0_isImage a0_turnWord a0_turnFrom a0_pieceSign a0_pieceFrom a0_runFrom a0_runLong a0_runPiece a0_alike a0_stood H.size v0_taped v0_faultKind v0_faultPlace v0_undos v0_turns v0_pieces v0_signs v0_runs g0_all g0_turnWord g0_turnFrom g0_pieceSign g0_runFrom g0_runLong x2 N r2 hr2) (cwV 1 hts gX12_narrowest_X12_rangeOf rfl rfl rfl (by decide +kernel) ⟨Nat.le_of_ble_eq_true rfl, Nat.le_of_ble_eq_true rfl⟩) hK hP hD hS hA [0, 1, 2, 3, 4, 5, 6] [] [0, 1, 2, 3, 4, 5, 6] rfl (by decide) rfl (by decide) (by decide) rfl (by decide) rfl rfl rfl hl.1 rfl (Nat.le_of_ble_eq_true rfl) dX12_narrowest_14 ⟨Nat.zero_le _, Nat.zero_le _⟩ (fun H locs hP hD hS => ?_)
        refine lv_aload_n hx hb dX12_narrowest_17 rfl (lv_at hl 0 rfl) ?_
        refine lv_iload_n hx hb dX12_narrowest_18 rfl (lv_at hl 1 rfl) ?_
        obtain ⟨r3, hr3, hf⟩ := bd hf
        refine zVi (As := [.int x1]) (rest := [.int r2]) (ci := 9) (q0 := 0) (wn := [(a0, .inr (9, [.ref a0_all, .ref a0_tape, .ref a0_isImage, .int v0_taped, .int v0_faultKind, .int v0_faultPlace, .int v0_undos, .ref a0_turnWord, .ref a0_turnFrom, .int v0_turns, .ref a0_pieceSign, .ref a0_pieceFrom, .int v0_pieces, .int v0_signs, .ref a0_runFrom, .ref a0_runLong, .ref a0_runPiece, .int v0_runs, .ref a0_alike, .ref a0_stood])), (a0_all, .inl (D.2 1, 5228, .inl g0_all)), (a0_turnWord, .inl (D.2 1, 320, .inl g0_turnWord)), (a0_turnFrom, .inl (D.2 1, 320, .inl g0_turnFrom)), (a0_pieceSign, .inl (D.2 1, 40, .inl g0_pieceSign)), (a0_runFrom, .inl (D.2 1, 40, .inl g0_runFrom)), (a0_runLong, .inl (D.2 1, 40, .inl g0_runLong))]) ⟨hx, hb, hml, hown, hts⟩ (mX12_rangeOf l D a0 a0_all a0_tape a0_isImage a0_turnWord a0_turnFrom a0_pieceSign a0_pieceFrom a0_runFrom a0_runLong a0_runPiece a0_alike a0_stood H.size v0_taped v0_faultKind v0_faultPlace v0_undos v0_turns v0_pieces v0_signs v0_runs g0_all g0_turnWord g0_turnFrom g0_pieceSign g0_runFrom g0_runLong x1 N r3 hr3) (cwV 1 hts gX12_narrowest_X12_rangeOf rfl rfl rfl (by decide +kernel) ⟨Nat.le_of_ble_eq_true rfl, Nat.le_of_ble_eq_true rfl⟩) hK hP hD hS hA [0, 1, 2, 3, 4, 5, 6] [] [0, 1, 2, 3, 4, 5, 6] rfl (by decide) rfl (by decide) (by decide) rfl (by decide) rfl rfl rfl hl.1 rfl (Nat.le_of_ble_eq_true rfl) dX12_narrowest_19 ⟨Nat.zero_le _, Nat.zero_le _⟩ (fun H locs hP hD hS => ?_)
        refine lv_icmp_ge (tgt := 29) hx hb dX12_narrowest_22 (by decide) (fun c_4 => ?_) (fun c_4 => ?_)
        · replace hf := ip c_4 hf
          refine lv_iload_n hx hb dX12_narrowest_29 rfl (lv_at hl 1 rfl) ?_
          refine lv_istore_n (lv' := [(1, .int x1), (0, .ref a0), (2, .int x2)]) hx hb dX12_narrowest_30 rfl hl (by decide) rfl (fun ls hl => ?_)
          refine lv_iinc (v := (x2 + (1 : Int32))) (lv' := [(2, .int (x2 + (1 : Int32))), (1, .int x1), (0, .ref a0)]) hx hb dX12_narrowest_31 hl (k := 2) rfl rfl (by decide) rfl (fun ls hl => ?_)
          refine lv_goto (tgt := 4) hx hb dX12_narrowest_34 (by decide) ?_
          exact ih x1 (x2 + (1 : Int32)) H locs ls hf hP hD hS (lv_sub hl [2, 1, 0] rfl)
        · replace hf := im c_4 hf
          refine lv_iload_n hx hb dX12_narrowest_25 rfl (lv_at hl 2 rfl) ?_
          refine lv_goto (tgt := 30) hx hb dX12_narrowest_26 (by decide) ?_
          refine lv_istore_n (lv' := [(1, .int x2), (0, .ref a0), (2, .int x2)]) hx hb dX12_narrowest_30 rfl hl (by decide) rfl (fun ls hl => ?_)
          refine lv_iinc (v := (x2 + (1 : Int32))) (lv' := [(2, .int (x2 + (1 : Int32))), (1, .int x2), (0, .ref a0)]) hx hb dX12_narrowest_31 hl (k := 2) rfl rfl (by decide) rfl (fun ls hl => ?_)
          refine lv_goto (tgt := 4) hx hb dX12_narrowest_34 (by decide) ?_
          exact ih x2 (x2 + (1 : Int32)) H locs ls hf hP hD hS (lv_sub hl [2, 1, 0] rfl)
  unfold fX12_narrowest at hf
  refine lv_iconst (v := 0) hx hb dX12_narrowest_0 (by decide) ?_
  refine lv_istore_n (lv' := [(1, .int (0 : Int32)), (0, .ref a0)]) hx hb dX12_narrowest_1 rfl hl (by decide) rfl (fun ls hl => ?_)
  refine lv_iconst (v := 1) hx hb dX12_narrowest_2 (by decide) ?_
  refine lv_istore_n (lv' := [(2, .int (1 : Int32)), (1, .int (0 : Int32)), (0, .ref a0)]) hx hb dX12_narrowest_3 rfl hl (by decide) rfl (fun ls hl => ?_)
  exact k4 N (0 : Int32) (1 : Int32) H locs ls hf hP hD hS (lv_sub hl [2, 1, 0] rfl)
def fX12_isShared_2 (N : Nat) (v0_turns : Int32) (v0_runs : Int32) (g0_all : Nat → Int32) (g0_turnWord : Nat → Int32) (g0_turnFrom : Nat → Int32) (g0_pieceSign : Nat → Int32) (g0_runFrom : Nat → Int32) (g0_runLong : Nat → Int32) (p1 : Int32) : Nat → Int32 → Option (Int32)
  | 0, _ => none
  | K + 1, x2 =>
    if v0_runs ≤ x2 then
      some ((1 : Int32))
    else
      Option.bind (fX12_isOf N v0_turns g0_all g0_turnWord g0_turnFrom g0_pieceSign g0_runFrom g0_runLong p1 x2) fun r2 =>
      if r2 = (0 : Int32) then
        some ((0 : Int32))
      else
        (fX12_isShared_2 N v0_turns v0_runs g0_all g0_turnWord g0_turnFrom g0_pieceSign g0_runFrom g0_runLong p1 K) (x2 + (1 : Int32))
def fX12_isShared (N : Nat) (v0_turns : Int32) (v0_runs : Int32) (g0_all : Nat → Int32) (g0_turnWord : Nat → Int32) (g0_turnFrom : Nat → Int32) (g0_pieceSign : Nat → Int32) (g0_runFrom : Nat → Int32) (g0_runLong : Nat → Int32) (p1 : Int32) : Option (Int32) :=
  fX12_isShared_2 N v0_turns v0_runs g0_all g0_turnWord g0_turnFrom g0_pieceSign g0_runFrom g0_runLong p1 N (0 : Int32)
set_option maxHeartbeats 4000000 in
set_option maxRecDepth 100000 in
theorem mX12_isShared (l : Launch) (D : zG) (a0 : Nat) (a0_all : Nat) (a0_tape : Nat) (a0_isImage : Nat) (a0_turnWord : Nat) (a0_turnFrom : Nat) (a0_pieceSign : Nat) (a0_pieceFrom : Nat) (a0_runFrom : Nat) (a0_runLong : Nat) (a0_runPiece : Nat) (a0_alike : Nat) (a0_stood : Nat) (sz : Nat)  (v0_taped : Int32) (v0_faultKind : Int32) (v0_faultPlace : Int32) (v0_undos : Int32) (v0_turns : Int32) (v0_pieces : Int32) (v0_signs : Int32) (v0_runs : Int32) (g0_all : Nat → Int32) (g0_turnWord : Nat → Int32) (g0_turnFrom : Nat → Int32) (g0_pieceSign : Nat → Int32) (g0_runFrom : Nat → Int32) (g0_runLong : Nat → Int32) (p1 : Int32) (N : Nat) (res : Int32) (hf : fX12_isShared N v0_turns v0_runs g0_all g0_turnWord g0_turnFrom g0_pieceSign g0_runFrom g0_runLong p1 = some res) : Met l yX12_isShared wsX12_isShared ({ frames := 3, cells := 0, slots := 0, locals := 71 } : Room) (va_Pc [.ref a0, .int p1] (zW D sz [(a0, .inr (9, [.ref a0_all, .ref a0_tape, .ref a0_isImage, .int v0_taped, .int v0_faultKind, .int v0_faultPlace, .int v0_undos, .ref a0_turnWord, .ref a0_turnFrom, .int v0_turns, .ref a0_pieceSign, .ref a0_pieceFrom, .int v0_pieces, .int v0_signs, .ref a0_runFrom, .ref a0_runLong, .ref a0_runPiece, .int v0_runs, .ref a0_alike, .ref a0_stood])), (a0_all, .inl (D.2 1, 5228, .inl g0_all)), (a0_turnWord, .inl (D.2 1, 320, .inl g0_turnWord)), (a0_turnFrom, .inl (D.2 1, 320, .inl g0_turnFrom)), (a0_pieceSign, .inl (D.2 1, 40, .inl g0_pieceSign)), (a0_runFrom, .inl (D.2 1, 40, .inl g0_runFrom)), (a0_runLong, .inl (D.2 1, 40, .inl g0_runLong))])) (va_Qi (fun r (_ : Unit) => r = res ∧ (r = 0 ∨ r = 1)) (fun _ => zB D (va_A [(a0, .inr (9, [.ref a0_all, .ref a0_tape, .ref a0_isImage, .int v0_taped, .int v0_faultKind, .int v0_faultPlace, .int v0_undos, .ref a0_turnWord, .ref a0_turnFrom, .int v0_turns, .ref a0_pieceSign, .ref a0_pieceFrom, .int v0_pieces, .int v0_signs, .ref a0_runFrom, .ref a0_runLong, .ref a0_runPiece, .int v0_runs, .ref a0_alike, .ref a0_stood])), (a0_all, .inl (D.2 1, 5228, .inl g0_all)), (a0_turnWord, .inl (D.2 1, 320, .inl g0_turnWord)), (a0_turnFrom, .inl (D.2 1, 320, .inl g0_turnFrom)), (a0_pieceSign, .inl (D.2 1, 40, .inl g0_pieceSign)), (a0_runFrom, .inl (D.2 1, 40, .inl g0_runFrom)), (a0_runLong, .inl (D.2 1, 40, .inl g0_runLong))] sz) [(a0, .inr (9, [.ref a0_all, .ref a0_tape, .ref a0_isImage, .int v0_taped, .int v0_faultKind, .int v0_faultPlace, .int v0_undos, .ref a0_turnWord, .ref a0_turnFrom, .int v0_turns, .ref a0_pieceSign, .ref a0_pieceFrom, .int v0_pieces, .int v0_signs, .ref a0_runFrom, .ref a0_runLong, .ref a0_runPiece, .int v0_runs, .ref a0_alike, .ref a0_stood])), (a0_all, .inl (D.2 1, 5228, .inl g0_all)), (a0_turnWord, .inl (D.2 1, 320, .inl g0_turnWord)), (a0_turnFrom, .inl (D.2 1, 320, .inl g0_turnFrom)), (a0_pieceSign, .inl (D.2 1, 40, .inl g0_pieceSign)), (a0_runFrom, .inl (D.2 1, 40, .inl g0_runFrom)), (a0_runLong, .inl (D.2 1, 40, .inl g0_runLong))]) (va_A [(a0, .inr (9, [.ref a0_all, .ref a0_tape, .ref a0_isImage, .int v0_taped, .int v0_faultKind, .int v0_faultPlace, .int v0_undos, .ref a0_turnWord, .ref a0_turnFrom, .int v0_turns, .ref a0_pieceSign, .ref a0_pieceFrom, .int v0_pieces, .int v0_signs, .ref a0_runFrom, .ref a0_runLong, .ref a0_runPiece, .int v0_runs, .ref a0_alike, .ref a0_stood])), (a0_all, .inl (D.2 1, 5228, .inl g0_all)), (a0_turnWord, .inl (D.2 1, 320, .inl g0_turnWord)), (a0_turnFrom, .inl (D.2 1, 320, .inl g0_turnFrom)), (a0_pieceSign, .inl (D.2 1, 40, .inl g0_pieceSign)), (a0_runFrom, .inl (D.2 1, 40, .inl g0_runFrom)), (a0_runLong, .inl (D.2 1, 40, .inl g0_runLong))] sz)) 0 0 (va_A [(a0, .inr (9, [.ref a0_all, .ref a0_tape, .ref a0_isImage, .int v0_taped, .int v0_faultKind, .int v0_faultPlace, .int v0_undos, .ref a0_turnWord, .ref a0_turnFrom, .int v0_turns, .ref a0_pieceSign, .ref a0_pieceFrom, .int v0_pieces, .int v0_signs, .ref a0_runFrom, .ref a0_runLong, .ref a0_runPiece, .int v0_runs, .ref a0_alike, .ref a0_stood])), (a0_all, .inl (D.2 1, 5228, .inl g0_all)), (a0_turnWord, .inl (D.2 1, 320, .inl g0_turnWord)), (a0_turnFrom, .inl (D.2 1, 320, .inl g0_turnFrom)), (a0_pieceSign, .inl (D.2 1, 40, .inl g0_pieceSign)), (a0_runFrom, .inl (D.2 1, 40, .inl g0_runFrom)), (a0_runLong, .inl (D.2 1, 40, .inl g0_runLong))] sz) := by
  refine Met.ofW (cc := cX12_isShared) (maxL := 3) (ret := (some .boolean)) (by decide) rfl ?_
  intro p e s m args below meth c s₁ B hml hv
  obtain ⟨rfl, hsz, hP, hK, hD0⟩ := hv
  have hx := B.exec
  have hb := B.bytes
  have hr := B.returns
  have hts := atoms_spec (ws := wsX12_isShared) B.pre
  have hown : s.vm.findClass RX12 = some m.cls := findClass_of_methodNamed B.named
  have hlocks := B.notSynchronized
  subst hsz
  have hD := hD0.self (sz := s.heap.size)
  generalize hAe : va_A [(a0, .inr (9, [.ref a0_all, .ref a0_tape, .ref a0_isImage, .int v0_taped, .int v0_faultKind, .int v0_faultPlace, .int v0_undos, .ref a0_turnWord, .ref a0_turnFrom, .int v0_turns, .ref a0_pieceSign, .ref a0_pieceFrom, .int v0_pieces, .int v0_signs, .ref a0_runFrom, .ref a0_runLong, .ref a0_runPiece, .int v0_runs, .ref a0_alike, .ref a0_stood])), (a0_all, .inl (D.2 1, 5228, .inl g0_all)), (a0_turnWord, .inl (D.2 1, 320, .inl g0_turnWord)), (a0_turnFrom, .inl (D.2 1, 320, .inl g0_turnFrom)), (a0_pieceSign, .inl (D.2 1, 40, .inl g0_pieceSign)), (a0_runFrom, .inl (D.2 1, 40, .inl g0_runFrom)), (a0_runLong, .inl (D.2 1, 40, .inl g0_runLong))] s.heap.size = A at hD ⊢
  have hA : ∀ q : Nat, s.heap.size ≤ q → A q := fun q h => by rw [← hAe]; exact Or.inr h
  have l122 := zat hts 1 (w := .fieldLink RX12 122 "TurnedWordsModel" "runs" "I") rfl
  have hwX12 : ∀ w ∈ u_ws RX12 TX12 20, w ∈ wsX12_isShared := fun w h => List.mem_cons_of_mem _ (List.mem_append_right _ h)
  have hl := lv_entry ([.ref a0, .int p1]) (n := 3) (Nat.le_of_ble_eq_true rfl)
  rw [lg_entry_eq]
  generalize (lg_sl ([.ref a0, .int p1]) ++ List.replicate (3 - (lg_sl ([.ref a0, .int p1])).length) Slot.unset).toArray = ls at hl ⊢
  have hl : lv_has ls 3 [(0, .ref a0), (1, .int p1)] := hl
  refine zStart (A := A) hP (fun Q0 H locs hQ hP hS => ?_)
  have k2 : ∀ K : Nat, ∀ (x2 : Int32) (H : Heap) (locs : List Loc) (ls : Array Slot), fX12_isShared_2 N v0_turns v0_runs g0_all g0_turnWord g0_turnFrom g0_pieceSign g0_runFrom g0_runLong p1 K x2 = some res → va_P D.1 vwCl [(a0, .inr (9, [.ref a0_all, .ref a0_tape, .ref a0_isImage, .int v0_taped, .int v0_faultKind, .int v0_faultPlace, .int v0_undos, .ref a0_turnWord, .ref a0_turnFrom, .int v0_turns, .ref a0_pieceSign, .ref a0_pieceFrom, .int v0_pieces, .int v0_signs, .ref a0_runFrom, .ref a0_runLong, .ref a0_runPiece, .int v0_runs, .ref a0_alike, .ref a0_stood])), (a0_all, .inl (D.2 1, 5228, .inl g0_all)), (a0_turnWord, .inl (D.2 1, 320, .inl g0_turnWord)), (a0_turnFrom, .inl (D.2 1, 320, .inl g0_turnFrom)), (a0_pieceSign, .inl (D.2 1, 40, .inl g0_pieceSign)), (a0_runFrom, .inl (D.2 1, 40, .inl g0_runFrom)), (a0_runLong, .inl (D.2 1, 40, .inl g0_runLong))] H → va_D A [(a0, .inr (9, [.ref a0_all, .ref a0_tape, .ref a0_isImage, .int v0_taped, .int v0_faultKind, .int v0_faultPlace, .int v0_undos, .ref a0_turnWord, .ref a0_turnFrom, .int v0_turns, .ref a0_pieceSign, .ref a0_pieceFrom, .int v0_pieces, .int v0_signs, .ref a0_runFrom, .ref a0_runLong, .ref a0_runPiece, .int v0_runs, .ref a0_alike, .ref a0_stood])), (a0_all, .inl (D.2 1, 5228, .inl g0_all)), (a0_turnWord, .inl (D.2 1, 320, .inl g0_turnWord)), (a0_turnFrom, .inl (D.2 1, 320, .inl g0_turnFrom)), (a0_pieceSign, .inl (D.2 1, 40, .inl g0_pieceSign)), (a0_runFrom, .inl (D.2 1, 40, .inl g0_runFrom)), (a0_runLong, .inl (D.2 1, 40, .inl g0_runLong))] → va_S A s.heap H locs → lv_has ls 3 [(0, .ref a0), (1, .int p1), (2, .int x2)] → W p l e (headSpec wsX12_isShared ({ frames := 3, cells := 0, slots := 0, locals := 71 } : Room)).room s m ([.ref a0, .int p1] : List Value).toArray below meth c H locs 0 0 Q0 (F0 m 2 ls []) := by
    intro K
    induction K with
    | zero =>
      intro x2 H locs ls hf
      rw [fX12_isShared_2] at hf
      cases hf
    | succ K ih =>
      intro x2 H locs ls hf hP hD hS hl
      rw [fX12_isShared_2] at hf
      refine lv_iload_n hx hb dX12_isShared_2 rfl (lv_at hl 2 rfl) ?_
      refine lv_aload_n hx hb dX12_isShared_3 rfl (lv_at hl 0 rfl) ?_
      refine va_get (D := D.1) (ci := 9) (v := .int v0_runs) (C := RX12) (T := TX12) (N := 20) hx hb hts hwX12 hown hK.1 hP 0 rfl rfl 17 (by decide) l122 (fun _ h9 => h9) rfl dX12_isShared_4 ?_
      refine lv_icmp_ge (tgt := 27) hx hb dX12_isShared_7 (by decide) (fun c_1 => ?_) (fun c_1 => ?_)
      · replace hf := ip c_1 hf
        refine lv_iconst (v := 1) hx hb dX12_isShared_27 (by decide) ?_
        have he := Option.some.inj hf
        rw [hQ]
        exact W.zret (v := (1 : Int32)) hx hb hr (znb (Or.inr rfl)) (fun t ht hW => by rw [← he]; exact ⟨⟨(1 : Int32), (), rfl, ⟨rfl, Or.inr rfl⟩, by rw [ht]; exact hP, hD⟩, hS.F ht⟩) hS.2.2 dX12_isShared_28
      · replace hf := im c_1 hf
        refine lv_aload_n hx hb dX12_isShared_10 rfl (lv_at hl 0 rfl) ?_
        refine lv_iload_n hx hb dX12_isShared_11 rfl (lv_at hl 1 rfl) ?_
        refine lv_iload_n hx hb dX12_isShared_12 rfl (lv_at hl 2 rfl) ?_
        obtain ⟨r2, hr2, hf⟩ := bd hf
        refine zVz (As := [.int p1, .int x2]) (rest := []) (ci := 9) (q0 := 0) (wn := [(a0, .inr (9, [.ref a0_all, .ref a0_tape, .ref a0_isImage, .int v0_taped, .int v0_faultKind, .int v0_faultPlace, .int v0_undos, .ref a0_turnWord, .ref a0_turnFrom, .int v0_turns, .ref a0_pieceSign, .ref a0_pieceFrom, .int v0_pieces, .int v0_signs, .ref a0_runFrom, .ref a0_runLong, .ref a0_runPiece, .int v0_runs, .ref a0_alike, .ref a0_stood])), (a0_all, .inl (D.2 1, 5228, .inl g0_all)), (a0_turnWord, .inl (D.2 1, 320, .inl g0_turnWord)), (a0_turnFrom, .inl (D.2 1, 320, .inl g0_turnFrom)), (a0_pieceSign, .inl (D.2 1, 40, .inl g0_pieceSign)), (a0_runFrom, .inl (D.2 1, 40, .inl g0_runFrom)), (a0_runLong, .inl (D.2 1, 40, .inl g0_runLong))]) ⟨hx, hb, hml, hown, hts⟩ (mX12_isOf l D a0 a0_all a0_tape a0_isImage a0_turnWord a0_turnFrom a0_pieceSign a0_pieceFrom a0_runFrom a0_runLong a0_runPiece a0_alike a0_stood H.size v0_taped v0_faultKind v0_faultPlace v0_undos v0_turns v0_pieces v0_signs v0_runs g0_all g0_turnWord g0_turnFrom g0_pieceSign g0_runFrom g0_runLong p1 x2 N r2 hr2) (cwV 2 hts gX12_isShared_X12_isOf rfl rfl rfl (by decide +kernel) ⟨Nat.le_of_ble_eq_true rfl, Nat.le_of_ble_eq_true rfl⟩) hK hP hD hS hA [0, 1, 2, 3, 4, 5, 6] [] [0, 1, 2, 3, 4, 5, 6] rfl (by decide) rfl (by decide) (by decide) rfl (by decide) rfl rfl rfl hl.1 rfl (Nat.le_of_ble_eq_true rfl) dX12_isShared_13 ⟨Nat.zero_le _, Nat.zero_le _⟩ (fun H locs hb_3 hP hD hS => ?_)
        refine lv_if_ne (tgt := 21) hx hb dX12_isShared_16 (by decide) (fun c_4 => ?_) (fun c_4 => ?_)
        · replace hf := im c_4 hf
          refine lv_iinc (v := (x2 + (1 : Int32))) (lv' := [(2, .int (x2 + (1 : Int32))), (0, .ref a0), (1, .int p1)]) hx hb dX12_isShared_21 hl (k := 2) rfl rfl (by decide) rfl (fun ls hl => ?_)
          refine lv_goto (tgt := 2) hx hb dX12_isShared_24 (by decide) ?_
          exact ih (x2 + (1 : Int32)) H locs ls hf hP hD hS (lv_sub hl [1, 2, 0] rfl)
        · replace hf := ip c_4 hf
          refine lv_iconst (v := 0) hx hb dX12_isShared_19 (by decide) ?_
          have he := Option.some.inj hf
          rw [hQ]
          exact W.zret (v := (0 : Int32)) hx hb hr (znb (Or.inl rfl)) (fun t ht hW => by rw [← he]; exact ⟨⟨(0 : Int32), (), rfl, ⟨rfl, Or.inl rfl⟩, by rw [ht]; exact hP, hD⟩, hS.F ht⟩) hS.2.2 dX12_isShared_20
  unfold fX12_isShared at hf
  refine lv_iconst (v := 0) hx hb dX12_isShared_0 (by decide) ?_
  refine lv_istore_n (lv' := [(2, .int (0 : Int32)), (0, .ref a0), (1, .int p1)]) hx hb dX12_isShared_1 rfl hl (by decide) rfl (fun ls hl => ?_)
  exact k2 N (0 : Int32) H locs ls hf hP hD hS (lv_sub hl [1, 2, 0] rfl)
def fX12_laysAll (N : Nat) (v0_turns : Int32) (v0_pieces : Int32) (v0_signs : Int32) (v0_runs : Int32) (g0_all : Nat → Int32) (g0_turnWord : Nat → Int32) (g0_turnFrom : Nat → Int32) (g0_pieceSign : Nat → Int32) (g0_pieceFrom : Nat → Int32) (g0_runFrom : Nat → Int32) (g0_runLong : Nat → Int32) (g0_runPiece : Nat → Int32) : Option (Int32 × Int32 × Int32 × Int32 × (Nat → Int32) × (Nat → Int32) × (Nat → Int32) × (Nat → Int32) × (Nat → Int32) × (Nat → Int32) × (Nat → Int32)) :=
  Option.bind (fX12_laysTurns N v0_turns g0_all g0_turnWord g0_turnFrom (0 : Int32)) fun r1 =>
  Option.bind (fX12_laysRuns N v0_pieces v0_signs v0_runs g0_all g0_pieceSign g0_pieceFrom g0_runFrom g0_runLong g0_runPiece) fun r2 =>
  some (r1.1, r2.1, r2.2.1, r2.2.2.1, r1.2.1, r1.2.2, r2.2.2.2.1, r2.2.2.2.2.1, r2.2.2.2.2.2.1, r2.2.2.2.2.2.2.1, r2.2.2.2.2.2.2.2)
set_option maxHeartbeats 4000000 in
set_option maxRecDepth 100000 in
theorem mX12_laysAll (l : Launch) (D : zG) (a0 : Nat) (a0_all : Nat) (a0_tape : Nat) (a0_isImage : Nat) (a0_turnWord : Nat) (a0_turnFrom : Nat) (a0_pieceSign : Nat) (a0_pieceFrom : Nat) (a0_runFrom : Nat) (a0_runLong : Nat) (a0_runPiece : Nat) (a0_alike : Nat) (a0_stood : Nat) (sz : Nat)  (v0_taped : Int32) (v0_faultKind : Int32) (v0_faultPlace : Int32) (v0_undos : Int32) (v0_turns : Int32) (v0_pieces : Int32) (v0_signs : Int32) (v0_runs : Int32) (g0_all : Nat → Int32) (g0_turnWord : Nat → Int32) (g0_turnFrom : Nat → Int32) (g0_pieceSign : Nat → Int32) (g0_pieceFrom : Nat → Int32) (g0_runFrom : Nat → Int32) (g0_runLong : Nat → Int32) (g0_runPiece : Nat → Int32)  (N : Nat) (res : Int32 × Int32 × Int32 × Int32 × (Nat → Int32) × (Nat → Int32) × (Nat → Int32) × (Nat → Int32) × (Nat → Int32) × (Nat → Int32) × (Nat → Int32)) (hf : fX12_laysAll N v0_turns v0_pieces v0_signs v0_runs g0_all g0_turnWord g0_turnFrom g0_pieceSign g0_pieceFrom g0_runFrom g0_runLong g0_runPiece = some res) : Met l yX12_laysAll wsX12_laysAll ({ frames := 4, cells := 0, slots := 0, locals := 98 } : Room) (va_Pc [.ref a0] (zW D sz [(a0, .inr (9, [.ref a0_all, .ref a0_tape, .ref a0_isImage, .int v0_taped, .int v0_faultKind, .int v0_faultPlace, .int v0_undos, .ref a0_turnWord, .ref a0_turnFrom, .int v0_turns, .ref a0_pieceSign, .ref a0_pieceFrom, .int v0_pieces, .int v0_signs, .ref a0_runFrom, .ref a0_runLong, .ref a0_runPiece, .int v0_runs, .ref a0_alike, .ref a0_stood])), (a0_all, .inl (D.2 1, 5228, .inl g0_all)), (a0_turnWord, .inl (D.2 1, 320, .inl g0_turnWord)), (a0_turnFrom, .inl (D.2 1, 320, .inl g0_turnFrom)), (a0_pieceSign, .inl (D.2 1, 40, .inl g0_pieceSign)), (a0_pieceFrom, .inl (D.2 1, 14, .inl g0_pieceFrom)), (a0_runFrom, .inl (D.2 1, 40, .inl g0_runFrom)), (a0_runLong, .inl (D.2 1, 40, .inl g0_runLong)), (a0_runPiece, .inl (D.2 1, 40, .inl g0_runPiece))])) (va_Qv (fun (_ : Unit) => True) (fun _ => zB D (va_A [(a0, .inr (9, [.ref a0_all, .ref a0_tape, .ref a0_isImage, .int v0_taped, .int v0_faultKind, .int v0_faultPlace, .int v0_undos, .ref a0_turnWord, .ref a0_turnFrom, .int v0_turns, .ref a0_pieceSign, .ref a0_pieceFrom, .int v0_pieces, .int v0_signs, .ref a0_runFrom, .ref a0_runLong, .ref a0_runPiece, .int v0_runs, .ref a0_alike, .ref a0_stood])), (a0_all, .inl (D.2 1, 5228, .inl g0_all)), (a0_turnWord, .inl (D.2 1, 320, .inl g0_turnWord)), (a0_turnFrom, .inl (D.2 1, 320, .inl g0_turnFrom)), (a0_pieceSign, .inl (D.2 1, 40, .inl g0_pieceSign)), (a0_pieceFrom, .inl (D.2 1, 14, .inl g0_pieceFrom)), (a0_runFrom, .inl (D.2 1, 40, .inl g0_runFrom)), (a0_runLong, .inl (D.2 1, 40, .inl g0_runLong)), (a0_runPiece, .inl (D.2 1, 40, .inl g0_runPiece))] sz) [(a0, .inr (9, [.ref a0_all, .ref a0_tape, .ref a0_isImage, .int v0_taped, .int v0_faultKind, .int v0_faultPlace, .int v0_undos, .ref a0_turnWord, .ref a0_turnFrom, .int res.1, .ref a0_pieceSign, .ref a0_pieceFrom, .int res.2.1, .int res.2.2.1, .ref a0_runFrom, .ref a0_runLong, .ref a0_runPiece, .int res.2.2.2.1, .ref a0_alike, .ref a0_stood])), (a0_all, .inl (D.2 1, 5228, .inl g0_all)), (a0_turnWord, .inl (D.2 1, 320, .inl res.2.2.2.2.1)), (a0_turnFrom, .inl (D.2 1, 320, .inl res.2.2.2.2.2.1)), (a0_pieceSign, .inl (D.2 1, 40, .inl res.2.2.2.2.2.2.1)), (a0_pieceFrom, .inl (D.2 1, 14, .inl res.2.2.2.2.2.2.2.1)), (a0_runFrom, .inl (D.2 1, 40, .inl res.2.2.2.2.2.2.2.2.1)), (a0_runLong, .inl (D.2 1, 40, .inl res.2.2.2.2.2.2.2.2.2.1)), (a0_runPiece, .inl (D.2 1, 40, .inl res.2.2.2.2.2.2.2.2.2.2))]) (va_A [(a0, .inr (9, [.ref a0_all, .ref a0_tape, .ref a0_isImage, .int v0_taped, .int v0_faultKind, .int v0_faultPlace, .int v0_undos, .ref a0_turnWord, .ref a0_turnFrom, .int v0_turns, .ref a0_pieceSign, .ref a0_pieceFrom, .int v0_pieces, .int v0_signs, .ref a0_runFrom, .ref a0_runLong, .ref a0_runPiece, .int v0_runs, .ref a0_alike, .ref a0_stood])), (a0_all, .inl (D.2 1, 5228, .inl g0_all)), (a0_turnWord, .inl (D.2 1, 320, .inl g0_turnWord)), (a0_turnFrom, .inl (D.2 1, 320, .inl g0_turnFrom)), (a0_pieceSign, .inl (D.2 1, 40, .inl g0_pieceSign)), (a0_pieceFrom, .inl (D.2 1, 14, .inl g0_pieceFrom)), (a0_runFrom, .inl (D.2 1, 40, .inl g0_runFrom)), (a0_runLong, .inl (D.2 1, 40, .inl g0_runLong)), (a0_runPiece, .inl (D.2 1, 40, .inl g0_runPiece))] sz)) 0 0 (va_A [(a0, .inr (9, [.ref a0_all, .ref a0_tape, .ref a0_isImage, .int v0_taped, .int v0_faultKind, .int v0_faultPlace, .int v0_undos, .ref a0_turnWord, .ref a0_turnFrom, .int v0_turns, .ref a0_pieceSign, .ref a0_pieceFrom, .int v0_pieces, .int v0_signs, .ref a0_runFrom, .ref a0_runLong, .ref a0_runPiece, .int v0_runs, .ref a0_alike, .ref a0_stood])), (a0_all, .inl (D.2 1, 5228, .inl g0_all)), (a0_turnWord, .inl (D.2 1, 320, .inl g0_turnWord)), (a0_turnFrom, .inl (D.2 1, 320, .inl g0_turnFrom)), (a0_pieceSign, .inl (D.2 1, 40, .inl g0_pieceSign)), (a0_pieceFrom, .inl (D.2 1, 14, .inl g0_pieceFrom)), (a0_runFrom, .inl (D.2 1, 40, .inl g0_runFrom)), (a0_runLong, .inl (D.2 1, 40, .inl g0_runLong)), (a0_runPiece, .inl (D.2 1, 40, .inl g0_runPiece))] sz) := by
  refine Met.ofW (cc := cX12_laysAll) (maxL := 1) (ret := none) (by decide) rfl ?_
  intro p e s m args below meth c s₁ B hml hv
  obtain ⟨rfl, hsz, hP, hK, hD0⟩ := hv
  have hx := B.exec
  have hb := B.bytes
  have hr := B.returns
  have hts := atoms_spec (ws := wsX12_laysAll) B.pre
  have hown : s.vm.findClass RX12 = some m.cls := findClass_of_methodNamed B.named
  have hlocks := B.notSynchronized
  subst hsz
  have hD := hD0.self (sz := s.heap.size)
  generalize hAe : va_A [(a0, .inr (9, [.ref a0_all, .ref a0_tape, .ref a0_isImage, .int v0_taped, .int v0_faultKind, .int v0_faultPlace, .int v0_undos, .ref a0_turnWord, .ref a0_turnFrom, .int v0_turns, .ref a0_pieceSign, .ref a0_pieceFrom, .int v0_pieces, .int v0_signs, .ref a0_runFrom, .ref a0_runLong, .ref a0_runPiece, .int v0_runs, .ref a0_alike, .ref a0_stood])), (a0_all, .inl (D.2 1, 5228, .inl g0_all)), (a0_turnWord, .inl (D.2 1, 320, .inl g0_turnWord)), (a0_turnFrom, .inl (D.2 1, 320, .inl g0_turnFrom)), (a0_pieceSign, .inl (D.2 1, 40, .inl g0_pieceSign)), (a0_pieceFrom, .inl (D.2 1, 14, .inl g0_pieceFrom)), (a0_runFrom, .inl (D.2 1, 40, .inl g0_runFrom)), (a0_runLong, .inl (D.2 1, 40, .inl g0_runLong)), (a0_runPiece, .inl (D.2 1, 40, .inl g0_runPiece))] s.heap.size = A at hD ⊢
  have hA : ∀ q : Nat, s.heap.size ≤ q → A q := fun q h => by rw [← hAe]; exact Or.inr h
  have hl := lv_entry ([.ref a0]) (n := 1) (Nat.le_of_ble_eq_true rfl)
  rw [lg_entry_eq]
  generalize (lg_sl ([.ref a0]) ++ List.replicate (1 - (lg_sl ([.ref a0])).length) Slot.unset).toArray = ls at hl ⊢
  have hl : lv_has ls 1 [(0, .ref a0)] := hl
  refine zStart (A := A) hP (fun Q0 H locs hQ hP hS => ?_)
  unfold fX12_laysAll at hf
  refine lv_aload_n hx hb dX12_laysAll_0 rfl (lv_at hl 0 rfl) ?_
  refine lv_iconst (v := 0) hx hb dX12_laysAll_1 (by decide) ?_
  obtain ⟨r1, hr1, hf⟩ := bd hf
  refine zVv (As := [.int (0 : Int32)]) (rest := []) (ci := 9) (q0 := 0) (wn := [(a0, .inr (9, [.ref a0_all, .ref a0_tape, .ref a0_isImage, .int v0_taped, .int v0_faultKind, .int v0_faultPlace, .int v0_undos, .ref a0_turnWord, .ref a0_turnFrom, .int r1.1, .ref a0_pieceSign, .ref a0_pieceFrom, .int v0_pieces, .int v0_signs, .ref a0_runFrom, .ref a0_runLong, .ref a0_runPiece, .int v0_runs, .ref a0_alike, .ref a0_stood])), (a0_all, .inl (D.2 1, 5228, .inl g0_all)), (a0_turnWord, .inl (D.2 1, 320, .inl r1.2.1)), (a0_turnFrom, .inl (D.2 1, 320, .inl r1.2.2)), (a0_pieceSign, .inl (D.2 1, 40, .inl g0_pieceSign)), (a0_pieceFrom, .inl (D.2 1, 14, .inl g0_pieceFrom)), (a0_runFrom, .inl (D.2 1, 40, .inl g0_runFrom)), (a0_runLong, .inl (D.2 1, 40, .inl g0_runLong)), (a0_runPiece, .inl (D.2 1, 40, .inl g0_runPiece))]) ⟨hx, hb, hml, hown, hts⟩ (mX12_laysTurns l D a0 a0_all a0_tape a0_isImage a0_turnWord a0_turnFrom a0_pieceSign a0_pieceFrom a0_runFrom a0_runLong a0_runPiece a0_alike a0_stood H.size v0_taped v0_faultKind v0_faultPlace v0_undos v0_turns v0_pieces v0_signs v0_runs g0_all g0_turnWord g0_turnFrom (0 : Int32) N r1 hr1) (cwV 1 hts gX12_laysAll_X12_laysTurns rfl rfl rfl (by decide +kernel) ⟨Nat.le_of_ble_eq_true rfl, Nat.le_of_ble_eq_true rfl⟩) hK hP hD hS hA [0, 1, 2, 3] [4, 5, 6, 7, 8] [5, 6, 7, 8, 0, 1, 2, 3, 4] rfl (by decide) rfl (by decide) (by decide) rfl (by decide) rfl rfl rfl hl.1 rfl (Nat.le_of_ble_eq_true rfl) dX12_laysAll_2 ⟨Nat.zero_le _, Nat.zero_le _⟩ (fun H locs hP hD hS => ?_)
  refine lv_aload_n hx hb dX12_laysAll_5 rfl (lv_at hl 0 rfl) ?_
  obtain ⟨r2, hr2, hf⟩ := bd hf
  refine zVv (As := []) (rest := []) (ci := 9) (q0 := 0) (wn := [(a0, .inr (9, [.ref a0_all, .ref a0_tape, .ref a0_isImage, .int v0_taped, .int v0_faultKind, .int v0_faultPlace, .int v0_undos, .ref a0_turnWord, .ref a0_turnFrom, .int r1.1, .ref a0_pieceSign, .ref a0_pieceFrom, .int r2.1, .int r2.2.1, .ref a0_runFrom, .ref a0_runLong, .ref a0_runPiece, .int r2.2.2.1, .ref a0_alike, .ref a0_stood])), (a0_all, .inl (D.2 1, 5228, .inl g0_all)), (a0_turnWord, .inl (D.2 1, 320, .inl r1.2.1)), (a0_turnFrom, .inl (D.2 1, 320, .inl r1.2.2)), (a0_pieceSign, .inl (D.2 1, 40, .inl r2.2.2.2.1)), (a0_pieceFrom, .inl (D.2 1, 14, .inl r2.2.2.2.2.1)), (a0_runFrom, .inl (D.2 1, 40, .inl r2.2.2.2.2.2.1)), (a0_runLong, .inl (D.2 1, 40, .inl r2.2.2.2.2.2.2.1)), (a0_runPiece, .inl (D.2 1, 40, .inl r2.2.2.2.2.2.2.2))]) ⟨hx, hb, hml, hown, hts⟩ (mX12_laysRuns l D a0 a0_all a0_tape a0_isImage a0_turnWord a0_turnFrom a0_pieceSign a0_pieceFrom a0_runFrom a0_runLong a0_runPiece a0_alike a0_stood H.size v0_taped v0_faultKind v0_faultPlace v0_undos r1.1 v0_pieces v0_signs v0_runs g0_all g0_pieceSign g0_pieceFrom g0_runFrom g0_runLong g0_runPiece N r2 hr2) (cwV 0 hts gX12_laysAll_X12_laysRuns rfl rfl rfl (by decide +kernel) ⟨Nat.le_of_ble_eq_true rfl, Nat.le_of_ble_eq_true rfl⟩) hK hP hD hS hA [0, 1, 4, 5, 6, 7, 8] [2, 3] [2, 3, 0, 1, 4, 5, 6, 7, 8] rfl (by decide) rfl (by decide) (by decide) rfl (by decide) rfl rfl rfl hl.1 rfl (Nat.le_of_ble_eq_true rfl) dX12_laysAll_6 ⟨Nat.zero_le _, Nat.zero_le _⟩ (fun H locs hP hD hS => ?_)
  have he := Option.some.inj hf
  rw [hQ]
  exact W.vret hx hb hr (fun t ht hW => by rw [← he]; exact ⟨⟨(), rfl, trivial, by rw [ht]; exact hP, hD⟩, hS.F ht⟩) hS.2.2 dX12_laysAll_9
def fX12_stem_111 (N : Nat) (g0_all : Nat → Int32) (rec6 : Int32 → Int32 → Int32 → Option (Int32)) (y0 : Int32) (x1 : Int32) (x3 : Int32) (x4 : Int32) : Option (Int32) :=
  if (0 : Int32) ≤ x1 then
    rec6 x1 y0 (x3 + (1 : Int32))
  else
    rec6 x4 y0 (x3 + (1 : Int32))
def fX12_stem_95 (N : Nat) (g0_all : Nat → Int32) (rec6 : Int32 → Int32 → Int32 → Option (Int32)) (x1 : Int32) (x3 : Int32) (x4 : Int32) (x5 : Int32) : Option (Int32) :=
  if (0 : Int32) ≤ x1 then
    fX12_stem_111 N g0_all rec6 x5 x1 x3 x4
  else
    if x4 < 0 ∨ 5228 ≤ (x4).toNatClampNeg then none else
    fX12_stem_111 N g0_all rec6 (g0_all (x4).toNatClampNeg) x1 x3 x4
def fX12_stem_41 (N : Nat) (g0_all : Nat → Int32) (rec6 : Int32 → Int32 → Int32 → Option (Int32)) : Nat → Int32 → Int32 → Int32 → Int32 → Int32 → Option (Int32)
  | 0, _, _, _, _, _ => none
  | K + 1, x1, x2, x3, x4, x5 =>
    if x1 < (0 : Int32) then
      fX12_stem_95 N g0_all rec6 x1 x3 x4 x5
    else
      if x2 ≤ x5 then
        fX12_stem_95 N g0_all rec6 x1 x3 x4 x5
      else
        if x4 < 0 ∨ 5228 ≤ (x4).toNatClampNeg then none else
        if (g0_all (x4).toNatClampNeg) ≤ x5 then
          fX12_stem_95 N g0_all rec6 x1 x3 x4 x5
        else
          if ((x1 + (1 : Int32)) + x5) < 0 ∨ 5228 ≤ (((x1 + (1 : Int32)) + x5)).toNatClampNeg then none else
          if ((x4 + (1 : Int32)) + x5) < 0 ∨ 5228 ≤ (((x4 + (1 : Int32)) + x5)).toNatClampNeg then none else
          if (g0_all (((x1 + (1 : Int32)) + x5)).toNatClampNeg) = (g0_all (((x4 + (1 : Int32)) + x5)).toNatClampNeg) then
            (fX12_stem_41 N g0_all rec6 K) x1 x2 x3 x4 (x5 + (1 : Int32))
          else
            fX12_stem_95 N g0_all rec6 x1 x3 x4 x5
def fX12_stem_6 (N : Nat) (g0_all : Nat → Int32) : Nat → Int32 → Int32 → Int32 → Option (Int32)
  | 0, _, _, _ => none
  | K + 1, x1, x2, x3 =>
    if (0 : Int32) < 0 ∨ 5228 ≤ ((0 : Int32)).toNatClampNeg then none else
    if (g0_all ((0 : Int32)).toNatClampNeg) ≤ x3 then
      some (x2)
    else
      Option.bind (fX12_wordAt (0 : Int32) x3) fun r3 =>
      Option.bind (fX12_meets N g0_all (430 : Int32) r3) fun r4 =>
      if r4 = (0 : Int32) then
        (fX12_stem_6 N g0_all K) x1 x2 (x3 + (1 : Int32))
      else
        fX12_stem_41 N g0_all (fX12_stem_6 N g0_all K) N x1 x2 x3 r3 (0 : Int32)
def fX12_stem (N : Nat) (g0_all : Nat → Int32) : Option (Int32) :=
  fX12_stem_6 N g0_all N (-1 : Int32) (0 : Int32) (0 : Int32)
set_option maxHeartbeats 4000000 in
set_option maxRecDepth 100000 in
theorem mX12_stem (l : Launch) (D : zG) (a0 : Nat) (a0_all : Nat) (a0_tape : Nat) (a0_isImage : Nat) (a0_turnWord : Nat) (a0_turnFrom : Nat) (a0_pieceSign : Nat) (a0_pieceFrom : Nat) (a0_runFrom : Nat) (a0_runLong : Nat) (a0_runPiece : Nat) (a0_alike : Nat) (a0_stood : Nat) (sz : Nat)  (v0_taped : Int32) (v0_faultKind : Int32) (v0_faultPlace : Int32) (v0_undos : Int32) (v0_turns : Int32) (v0_pieces : Int32) (v0_signs : Int32) (v0_runs : Int32) (g0_all : Nat → Int32)  (N : Nat) (res : Int32) (hf : fX12_stem N g0_all = some res) : Met l yX12_stem wsX12_stem ({ frames := 2, cells := 0, slots := 0, locals := 51 } : Room) (va_Pc [.ref a0] (zW D sz [(a0, .inr (9, [.ref a0_all, .ref a0_tape, .ref a0_isImage, .int v0_taped, .int v0_faultKind, .int v0_faultPlace, .int v0_undos, .ref a0_turnWord, .ref a0_turnFrom, .int v0_turns, .ref a0_pieceSign, .ref a0_pieceFrom, .int v0_pieces, .int v0_signs, .ref a0_runFrom, .ref a0_runLong, .ref a0_runPiece, .int v0_runs, .ref a0_alike, .ref a0_stood])), (a0_all, .inl (D.2 1, 5228, .inl g0_all))])) (va_Qi (fun r (_ : Unit) => r = res) (fun _ => zB D (va_A [(a0, .inr (9, [.ref a0_all, .ref a0_tape, .ref a0_isImage, .int v0_taped, .int v0_faultKind, .int v0_faultPlace, .int v0_undos, .ref a0_turnWord, .ref a0_turnFrom, .int v0_turns, .ref a0_pieceSign, .ref a0_pieceFrom, .int v0_pieces, .int v0_signs, .ref a0_runFrom, .ref a0_runLong, .ref a0_runPiece, .int v0_runs, .ref a0_alike, .ref a0_stood])), (a0_all, .inl (D.2 1, 5228, .inl g0_all))] sz) [(a0, .inr (9, [.ref a0_all, .ref a0_tape, .ref a0_isImage, .int v0_taped, .int v0_faultKind, .int v0_faultPlace, .int v0_undos, .ref a0_turnWord, .ref a0_turnFrom, .int v0_turns, .ref a0_pieceSign, .ref a0_pieceFrom, .int v0_pieces, .int v0_signs, .ref a0_runFrom, .ref a0_runLong, .ref a0_runPiece, .int v0_runs, .ref a0_alike, .ref a0_stood])), (a0_all, .inl (D.2 1, 5228, .inl g0_all))]) (va_A [(a0, .inr (9, [.ref a0_all, .ref a0_tape, .ref a0_isImage, .int v0_taped, .int v0_faultKind, .int v0_faultPlace, .int v0_undos, .ref a0_turnWord, .ref a0_turnFrom, .int v0_turns, .ref a0_pieceSign, .ref a0_pieceFrom, .int v0_pieces, .int v0_signs, .ref a0_runFrom, .ref a0_runLong, .ref a0_runPiece, .int v0_runs, .ref a0_alike, .ref a0_stood])), (a0_all, .inl (D.2 1, 5228, .inl g0_all))] sz)) 0 0 (va_A [(a0, .inr (9, [.ref a0_all, .ref a0_tape, .ref a0_isImage, .int v0_taped, .int v0_faultKind, .int v0_faultPlace, .int v0_undos, .ref a0_turnWord, .ref a0_turnFrom, .int v0_turns, .ref a0_pieceSign, .ref a0_pieceFrom, .int v0_pieces, .int v0_signs, .ref a0_runFrom, .ref a0_runLong, .ref a0_runPiece, .int v0_runs, .ref a0_alike, .ref a0_stood])), (a0_all, .inl (D.2 1, 5228, .inl g0_all))] sz) := by
  refine Met.ofW (cc := cX12_stem) (maxL := 6) (ret := (some .int)) (by decide) rfl ?_
  intro p e s m args below meth c s₁ B hml hv
  obtain ⟨rfl, hsz, hP, hK, hD0⟩ := hv
  have hx := B.exec
  have hb := B.bytes
  have hr := B.returns
  have hts := atoms_spec (ws := wsX12_stem) B.pre
  have hown : s.vm.findClass RX12 = some m.cls := findClass_of_methodNamed B.named
  have hlocks := B.notSynchronized
  subst hsz
  have hD := hD0.self (sz := s.heap.size)
  generalize hAe : va_A [(a0, .inr (9, [.ref a0_all, .ref a0_tape, .ref a0_isImage, .int v0_taped, .int v0_faultKind, .int v0_faultPlace, .int v0_undos, .ref a0_turnWord, .ref a0_turnFrom, .int v0_turns, .ref a0_pieceSign, .ref a0_pieceFrom, .int v0_pieces, .int v0_signs, .ref a0_runFrom, .ref a0_runLong, .ref a0_runPiece, .int v0_runs, .ref a0_alike, .ref a0_stood])), (a0_all, .inl (D.2 1, 5228, .inl g0_all))] s.heap.size = A at hD ⊢
  have hA : ∀ q : Nat, s.heap.size ≤ q → A q := fun q h => by rw [← hAe]; exact Or.inr h
  have l7 := zat hts 1 (w := .fieldLink RX12 7 "TurnedWordsModel" "all" "[I") rfl
  have hwX12 : ∀ w ∈ u_ws RX12 TX12 20, w ∈ wsX12_stem := fun w h => List.mem_cons_of_mem _ (List.mem_append_right _ h)
  have hl := lv_entry ([.ref a0]) (n := 6) (Nat.le_of_ble_eq_true rfl)
  rw [lg_entry_eq]
  generalize (lg_sl ([.ref a0]) ++ List.replicate (6 - (lg_sl ([.ref a0])).length) Slot.unset).toArray = ls at hl ⊢
  have hl : lv_has ls 6 [(0, .ref a0)] := hl
  refine zStart (A := A) hP (fun Q0 H locs hQ hP hS => ?_)
  have k111 : ∀ (rec6 : Int32 → Int32 → Int32 → Option (Int32)), (∀ (x1 : Int32) (x2 : Int32) (x3 : Int32) (H : Heap) (locs : List Loc) (ls : Array Slot), rec6 x1 x2 x3 = some res → va_P D.1 vwCl [(a0, .inr (9, [.ref a0_all, .ref a0_tape, .ref a0_isImage, .int v0_taped, .int v0_faultKind, .int v0_faultPlace, .int v0_undos, .ref a0_turnWord, .ref a0_turnFrom, .int v0_turns, .ref a0_pieceSign, .ref a0_pieceFrom, .int v0_pieces, .int v0_signs, .ref a0_runFrom, .ref a0_runLong, .ref a0_runPiece, .int v0_runs, .ref a0_alike, .ref a0_stood])), (a0_all, .inl (D.2 1, 5228, .inl g0_all))] H → va_D A [(a0, .inr (9, [.ref a0_all, .ref a0_tape, .ref a0_isImage, .int v0_taped, .int v0_faultKind, .int v0_faultPlace, .int v0_undos, .ref a0_turnWord, .ref a0_turnFrom, .int v0_turns, .ref a0_pieceSign, .ref a0_pieceFrom, .int v0_pieces, .int v0_signs, .ref a0_runFrom, .ref a0_runLong, .ref a0_runPiece, .int v0_runs, .ref a0_alike, .ref a0_stood])), (a0_all, .inl (D.2 1, 5228, .inl g0_all))] → va_S A s.heap H locs → lv_has ls 6 [(0, .ref a0), (1, .int x1), (2, .int x2), (3, .int x3)] → W p l e (headSpec wsX12_stem ({ frames := 2, cells := 0, slots := 0, locals := 51 } : Room)).room s m ([.ref a0] : List Value).toArray below meth c H locs 0 0 Q0 (F0 m 6 ls [])) → ∀ (y0 : Int32) (x1 : Int32) (x3 : Int32) (x4 : Int32) (H : Heap) (locs : List Loc) (ls : Array Slot), fX12_stem_111 N g0_all rec6 y0 x1 x3 x4 = some res → va_P D.1 vwCl [(a0, .inr (9, [.ref a0_all, .ref a0_tape, .ref a0_isImage, .int v0_taped, .int v0_faultKind, .int v0_faultPlace, .int v0_undos, .ref a0_turnWord, .ref a0_turnFrom, .int v0_turns, .ref a0_pieceSign, .ref a0_pieceFrom, .int v0_pieces, .int v0_signs, .ref a0_runFrom, .ref a0_runLong, .ref a0_runPiece, .int v0_runs, .ref a0_alike, .ref a0_stood])), (a0_all, .inl (D.2 1, 5228, .inl g0_all))] H → va_D A [(a0, .inr (9, [.ref a0_all, .ref a0_tape, .ref a0_isImage, .int v0_taped, .int v0_faultKind, .int v0_faultPlace, .int v0_undos, .ref a0_turnWord, .ref a0_turnFrom, .int v0_turns, .ref a0_pieceSign, .ref a0_pieceFrom, .int v0_pieces, .int v0_signs, .ref a0_runFrom, .ref a0_runLong, .ref a0_runPiece, .int v0_runs, .ref a0_alike, .ref a0_stood])), (a0_all, .inl (D.2 1, 5228, .inl g0_all))] → va_S A s.heap H locs → lv_has ls 6 [(0, .ref a0), (1, .int x1), (3, .int x3), (4, .int x4)] → W p l e (headSpec wsX12_stem ({ frames := 2, cells := 0, slots := 0, locals := 51 } : Room)).room s m ([.ref a0] : List Value).toArray below meth c H locs 0 0 Q0 (F0 m 111 ls [.int y0]) := by
    intro rec6 hrec6 y0 x1 x3 x4 H locs ls hf hP hD hS hl
    unfold fX12_stem_111 at hf
    refine lv_istore_n (lv' := [(2, .int y0), (0, .ref a0), (1, .int x1), (3, .int x3), (4, .int x4)]) hx hb dX12_stem_111 rfl hl (by decide) rfl (fun ls hl => ?_)
    refine lv_iload_n hx hb dX12_stem_112 rfl (lv_at hl 2 rfl) ?_
    refine lv_if_ge (tgt := 121) hx hb dX12_stem_113 (by decide) (fun c_16 => ?_) (fun c_16 => ?_)
    · replace hf := ip c_16 hf
      refine lv_iload_n hx hb dX12_stem_121 rfl (lv_at hl 2 rfl) ?_
      refine lv_istore_n (lv' := [(1, .int x1), (2, .int y0), (0, .ref a0), (3, .int x3), (4, .int x4)]) hx hb dX12_stem_122 rfl hl (by decide) rfl (fun ls hl => ?_)
      refine lv_iinc (v := (x3 + (1 : Int32))) (lv' := [(3, .int (x3 + (1 : Int32))), (1, .int x1), (2, .int y0), (0, .ref a0), (4, .int x4)]) hx hb dX12_stem_123 hl (k := 3) rfl rfl (by decide) rfl (fun ls hl => ?_)
      refine lv_goto (tgt := 6) hx hb dX12_stem_126 (by decide) ?_
      exact hrec6 x1 y0 (x3 + (1 : Int32)) H locs ls hf hP hD hS (lv_sub hl [3, 1, 2, 0] rfl)
    · replace hf := im c_16 hf
      refine lv_iload hx hb dX12_stem_116 (lv_at hl 4 rfl) ?_
      refine lv_goto (tgt := 122) hx hb dX12_stem_118 (by decide) ?_
      refine lv_istore_n (lv' := [(1, .int x4), (2, .int y0), (0, .ref a0), (3, .int x3), (4, .int x4)]) hx hb dX12_stem_122 rfl hl (by decide) rfl (fun ls hl => ?_)
      refine lv_iinc (v := (x3 + (1 : Int32))) (lv' := [(3, .int (x3 + (1 : Int32))), (1, .int x4), (2, .int y0), (0, .ref a0), (4, .int x4)]) hx hb dX12_stem_123 hl (k := 3) rfl rfl (by decide) rfl (fun ls hl => ?_)
      refine lv_goto (tgt := 6) hx hb dX12_stem_126 (by decide) ?_
      exact hrec6 x4 y0 (x3 + (1 : Int32)) H locs ls hf hP hD hS (lv_sub hl [3, 1, 2, 0] rfl)
  have k95 : ∀ (rec6 : Int32 → Int32 → Int32 → Option (Int32)), (∀ (x1 : Int32) (x2 : Int32) (x3 : Int32) (H : Heap) (locs : List Loc) (ls : Array Slot), rec6 x1 x2 x3 = some res → va_P D.1 vwCl [(a0, .inr (9, [.ref a0_all, .ref a0_tape, .ref a0_isImage, .int v0_taped, .int v0_faultKind, .int v0_faultPlace, .int v0_undos, .ref a0_turnWord, .ref a0_turnFrom, .int v0_turns, .ref a0_pieceSign, .ref a0_pieceFrom, .int v0_pieces, .int v0_signs, .ref a0_runFrom, .ref a0_runLong, .ref a0_runPiece, .int v0_runs, .ref a0_alike, .ref a0_stood])), (a0_all, .inl (D.2 1, 5228, .inl g0_all))] H → va_D A [(a0, .inr (9, [.ref a0_all, .ref a0_tape, .ref a0_isImage, .int v0_taped, .int v0_faultKind, .int v0_faultPlace, .int v0_undos, .ref a0_turnWord, .ref a0_turnFrom, .int v0_turns, .ref a0_pieceSign, .ref a0_pieceFrom, .int v0_pieces, .int v0_signs, .ref a0_runFrom, .ref a0_runLong, .ref a0_runPiece, .int v0_runs, .ref a0_alike, .ref a0_stood])), (a0_all, .inl (D.2 1, 5228, .inl g0_all))] → va_S A s.heap H locs → lv_has ls 6 [(0, .ref a0), (1, .int x1), (2, .int x2), (3, .int x3)] → W p l e (headSpec wsX12_stem ({ frames := 2, cells := 0, slots := 0, locals := 51 } : Room)).room s m ([.ref a0] : List Value).toArray below meth c H locs 0 0 Q0 (F0 m 6 ls [])) → ∀ (x1 : Int32) (x3 : Int32) (x4 : Int32) (x5 : Int32) (H : Heap) (locs : List Loc) (ls : Array Slot), fX12_stem_95 N g0_all rec6 x1 x3 x4 x5 = some res → va_P D.1 vwCl [(a0, .inr (9, [.ref a0_all, .ref a0_tape, .ref a0_isImage, .int v0_taped, .int v0_faultKind, .int v0_faultPlace, .int v0_undos, .ref a0_turnWord, .ref a0_turnFrom, .int v0_turns, .ref a0_pieceSign, .ref a0_pieceFrom, .int v0_pieces, .int v0_signs, .ref a0_runFrom, .ref a0_runLong, .ref a0_runPiece, .int v0_runs, .ref a0_alike, .ref a0_stood])), (a0_all, .inl (D.2 1, 5228, .inl g0_all))] H → va_D A [(a0, .inr (9, [.ref a0_all, .ref a0_tape, .ref a0_isImage, .int v0_taped, .int v0_faultKind, .int v0_faultPlace, .int v0_undos, .ref a0_turnWord, .ref a0_turnFrom, .int v0_turns, .ref a0_pieceSign, .ref a0_pieceFrom, .int v0_pieces, .int v0_signs, .ref a0_runFrom, .ref a0_runLong, .ref a0_runPiece, .int v0_runs, .ref a0_alike, .ref a0_stood])), (a0_all, .inl (D.2 1, 5228, .inl g0_all))] → va_S A s.heap H locs → lv_has ls 6 [(0, .ref a0), (1, .int x1), (3, .int x3), (4, .int x4), (5, .int x5)] → W p l e (headSpec wsX12_stem ({ frames := 2, cells := 0, slots := 0, locals := 51 } : Room)).room s m ([.ref a0] : List Value).toArray below meth c H locs 0 0 Q0 (F0 m 95 ls []) := by
    intro rec6 hrec6 x1 x3 x4 x5 H locs ls hf hP hD hS hl
    unfold fX12_stem_95 at hf
    refine lv_iload_n hx hb dX12_stem_95 rfl (lv_at hl 1 rfl) ?_
    refine lv_if_ge (tgt := 109) hx hb dX12_stem_96 (by decide) (fun c_14 => ?_) (fun c_14 => ?_)
    · replace hf := ip c_14 hf
      refine lv_iload hx hb dX12_stem_109 (lv_at hl 4 rfl) ?_
      exact k111 rec6 hrec6 x5 x1 x3 x4 H locs ls hf hP hD hS (lv_sub hl [0, 1, 2, 3] rfl)
    · replace hf := im c_14 hf
      refine lv_aload_n hx hb dX12_stem_99 rfl (lv_at hl 0 rfl) ?_
      refine va_get (D := D.1) (ci := 9) (v := .ref a0_all) (C := RX12) (T := TX12) (N := 20) hx hb hts hwX12 hown hK.1 hP 0 rfl rfl 0 (by decide) l7 (fun _ h9 => h9) rfl dX12_stem_100 ?_
      refine lv_iload hx hb dX12_stem_103 (lv_at hl 3 rfl) ?_
      obtain ⟨h_15, hf⟩ := gd hf
      refine va_iald hx hb hK.1 hP 1 1 rfl rfl h_15 dX12_stem_105 ?_
      refine lv_goto (tgt := 111) hx hb dX12_stem_106 (by decide) ?_
      exact k111 rec6 hrec6 (g0_all (x4).toNatClampNeg) x1 x3 x4 H locs ls hf hP hD hS (lv_sub hl [0, 1, 2, 3] rfl)
  have k41 : ∀ (rec6 : Int32 → Int32 → Int32 → Option (Int32)), (∀ (x1 : Int32) (x2 : Int32) (x3 : Int32) (H : Heap) (locs : List Loc) (ls : Array Slot), rec6 x1 x2 x3 = some res → va_P D.1 vwCl [(a0, .inr (9, [.ref a0_all, .ref a0_tape, .ref a0_isImage, .int v0_taped, .int v0_faultKind, .int v0_faultPlace, .int v0_undos, .ref a0_turnWord, .ref a0_turnFrom, .int v0_turns, .ref a0_pieceSign, .ref a0_pieceFrom, .int v0_pieces, .int v0_signs, .ref a0_runFrom, .ref a0_runLong, .ref a0_runPiece, .int v0_runs, .ref a0_alike, .ref a0_stood])), (a0_all, .inl (D.2 1, 5228, .inl g0_all))] H → va_D A [(a0, .inr (9, [.ref a0_all, .ref a0_tape, .ref a0_isImage, .int v0_taped, .int v0_faultKind, .int v0_faultPlace, .int v0_undos, .ref a0_turnWord, .ref a0_turnFrom, .int v0_turns, .ref a0_pieceSign, .ref a0_pieceFrom, .int v0_pieces, .int v0_signs, .ref a0_runFrom, .ref a0_runLong, .ref a0_runPiece, .int v0_runs, .ref a0_alike, .ref a0_stood])), (a0_all, .inl (D.2 1, 5228, .inl g0_all))] → va_S A s.heap H locs → lv_has ls 6 [(0, .ref a0), (1, .int x1), (2, .int x2), (3, .int x3)] → W p l e (headSpec wsX12_stem ({ frames := 2, cells := 0, slots := 0, locals := 51 } : Room)).room s m ([.ref a0] : List Value).toArray below meth c H locs 0 0 Q0 (F0 m 6 ls [])) → ∀ K : Nat, ∀ (x1 : Int32) (x2 : Int32) (x3 : Int32) (x4 : Int32) (x5 : Int32) (H : Heap) (locs : List Loc) (ls : Array Slot), fX12_stem_41 N g0_all rec6 K x1 x2 x3 x4 x5 = some res → va_P D.1 vwCl [(a0, .inr (9, [.ref a0_all, .ref a0_tape, .ref a0_isImage, .int v0_taped, .int v0_faultKind, .int v0_faultPlace, .int v0_undos, .ref a0_turnWord, .ref a0_turnFrom, .int v0_turns, .ref a0_pieceSign, .ref a0_pieceFrom, .int v0_pieces, .int v0_signs, .ref a0_runFrom, .ref a0_runLong, .ref a0_runPiece, .int v0_runs, .ref a0_alike, .ref a0_stood])), (a0_all, .inl (D.2 1, 5228, .inl g0_all))] H → va_D A [(a0, .inr (9, [.ref a0_all, .ref a0_tape, .ref a0_isImage, .int v0_taped, .int v0_faultKind, .int v0_faultPlace, .int v0_undos, .ref a0_turnWord, .ref a0_turnFrom, .int v0_turns, .ref a0_pieceSign, .ref a0_pieceFrom, .int v0_pieces, .int v0_signs, .ref a0_runFrom, .ref a0_runLong, .ref a0_runPiece, .int v0_runs, .ref a0_alike, .ref a0_stood])), (a0_all, .inl (D.2 1, 5228, .inl g0_all))] → va_S A s.heap H locs → lv_has ls 6 [(0, .ref a0), (1, .int x1), (2, .int x2), (3, .int x3), (4, .int x4), (5, .int x5)] → W p l e (headSpec wsX12_stem ({ frames := 2, cells := 0, slots := 0, locals := 51 } : Room)).room s m ([.ref a0] : List Value).toArray below meth c H locs 0 0 Q0 (F0 m 41 ls []) := by
    intro rec6 hrec6 K
    induction K with
    | zero =>
      intro x1 x2 x3 x4 x5 H locs ls hf
      rw [fX12_stem_41] at hf
      cases hf
    | succ K ih =>
      intro x1 x2 x3 x4 x5 H locs ls hf hP hD hS hl
      rw [fX12_stem_41] at hf
      refine lv_iload_n hx hb dX12_stem_41 rfl (lv_at hl 1 rfl) ?_
      refine lv_if_lt (tgt := 95) hx hb dX12_stem_42 (by decide) (fun c_7 => ?_) (fun c_7 => ?_)
      · replace hf := ip c_7 hf
        exact k95 rec6 hrec6 x1 x3 x4 x5 H locs ls hf hP hD hS (lv_sub hl [0, 1, 3, 4, 5] rfl)
      · replace hf := im c_7 hf
        refine lv_iload hx hb dX12_stem_45 (lv_at hl 5 rfl) ?_
        refine lv_iload_n hx hb dX12_stem_47 rfl (lv_at hl 2 rfl) ?_
        refine lv_icmp_ge (tgt := 95) hx hb dX12_stem_48 (by decide) (fun c_8 => ?_) (fun c_8 => ?_)
        · replace hf := ip c_8 hf
          exact k95 rec6 hrec6 x1 x3 x4 x5 H locs ls hf hP hD hS (lv_sub hl [0, 1, 3, 4, 5] rfl)
        · replace hf := im c_8 hf
          refine lv_iload hx hb dX12_stem_51 (lv_at hl 5 rfl) ?_
          refine lv_aload_n hx hb dX12_stem_53 rfl (lv_at hl 0 rfl) ?_
          refine va_get (D := D.1) (ci := 9) (v := .ref a0_all) (C := RX12) (T := TX12) (N := 20) hx hb hts hwX12 hown hK.1 hP 0 rfl rfl 0 (by decide) l7 (fun _ h9 => h9) rfl dX12_stem_54 ?_
          refine lv_iload hx hb dX12_stem_57 (lv_at hl 4 rfl) ?_
          obtain ⟨h_9, hf⟩ := gd hf
          refine va_iald hx hb hK.1 hP 1 1 rfl rfl h_9 dX12_stem_59 ?_
          refine lv_icmp_ge (tgt := 95) hx hb dX12_stem_60 (by decide) (fun c_10 => ?_) (fun c_10 => ?_)
          · replace hf := ip c_10 hf
            exact k95 rec6 hrec6 x1 x3 x4 x5 H locs ls hf hP hD hS (lv_sub hl [0, 1, 3, 4, 5] rfl)
          · replace hf := im c_10 hf
            refine lv_aload_n hx hb dX12_stem_63 rfl (lv_at hl 0 rfl) ?_
            refine va_get (D := D.1) (ci := 9) (v := .ref a0_all) (C := RX12) (T := TX12) (N := 20) hx hb hts hwX12 hown hK.1 hP 0 rfl rfl 0 (by decide) l7 (fun _ h9 => h9) rfl dX12_stem_64 ?_
            refine lv_iload_n hx hb dX12_stem_67 rfl (lv_at hl 1 rfl) ?_
            refine lv_iconst (v := 1) hx hb dX12_stem_68 (by decide) ?_
            refine lv_iadd hx hb dX12_stem_69 ?_
            refine lv_iload hx hb dX12_stem_70 (lv_at hl 5 rfl) ?_
            refine lv_iadd hx hb dX12_stem_72 ?_
            obtain ⟨h_11, hf⟩ := gd hf
            refine va_iald hx hb hK.1 hP 1 1 rfl rfl h_11 dX12_stem_73 ?_
            refine lv_aload_n hx hb dX12_stem_74 rfl (lv_at hl 0 rfl) ?_
            refine va_get (D := D.1) (ci := 9) (v := .ref a0_all) (C := RX12) (T := TX12) (N := 20) hx hb hts hwX12 hown hK.1 hP 0 rfl rfl 0 (by decide) l7 (fun _ h9 => h9) rfl dX12_stem_75 ?_
            refine lv_iload hx hb dX12_stem_78 (lv_at hl 4 rfl) ?_
            refine lv_iconst (v := 1) hx hb dX12_stem_80 (by decide) ?_
            refine lv_iadd hx hb dX12_stem_81 ?_
            refine lv_iload hx hb dX12_stem_82 (lv_at hl 5 rfl) ?_
            refine lv_iadd hx hb dX12_stem_84 ?_
            obtain ⟨h_12, hf⟩ := gd hf
            refine va_iald hx hb hK.1 hP 1 1 rfl rfl h_12 dX12_stem_85 ?_
            refine lv_icmp_ne (tgt := 95) hx hb dX12_stem_86 (by decide) (fun c_13 => ?_) (fun c_13 => ?_)
            · replace hf := im c_13 hf
              exact k95 rec6 hrec6 x1 x3 x4 x5 H locs ls hf hP hD hS (lv_sub hl [0, 1, 3, 4, 5] rfl)
            · replace hf := ip c_13 hf
              refine lv_iinc (v := (x5 + (1 : Int32))) (lv' := [(5, .int (x5 + (1 : Int32))), (0, .ref a0), (1, .int x1), (2, .int x2), (3, .int x3), (4, .int x4)]) hx hb dX12_stem_89 hl (k := 5) rfl rfl (by decide) rfl (fun ls hl => ?_)
              refine lv_goto (tgt := 41) hx hb dX12_stem_92 (by decide) ?_
              exact ih x1 x2 x3 x4 (x5 + (1 : Int32)) H locs ls hf hP hD hS (lv_sub hl [1, 2, 3, 4, 5, 0] rfl)
  have k6 : ∀ K : Nat, ∀ (x1 : Int32) (x2 : Int32) (x3 : Int32) (H : Heap) (locs : List Loc) (ls : Array Slot), fX12_stem_6 N g0_all K x1 x2 x3 = some res → va_P D.1 vwCl [(a0, .inr (9, [.ref a0_all, .ref a0_tape, .ref a0_isImage, .int v0_taped, .int v0_faultKind, .int v0_faultPlace, .int v0_undos, .ref a0_turnWord, .ref a0_turnFrom, .int v0_turns, .ref a0_pieceSign, .ref a0_pieceFrom, .int v0_pieces, .int v0_signs, .ref a0_runFrom, .ref a0_runLong, .ref a0_runPiece, .int v0_runs, .ref a0_alike, .ref a0_stood])), (a0_all, .inl (D.2 1, 5228, .inl g0_all))] H → va_D A [(a0, .inr (9, [.ref a0_all, .ref a0_tape, .ref a0_isImage, .int v0_taped, .int v0_faultKind, .int v0_faultPlace, .int v0_undos, .ref a0_turnWord, .ref a0_turnFrom, .int v0_turns, .ref a0_pieceSign, .ref a0_pieceFrom, .int v0_pieces, .int v0_signs, .ref a0_runFrom, .ref a0_runLong, .ref a0_runPiece, .int v0_runs, .ref a0_alike, .ref a0_stood])), (a0_all, .inl (D.2 1, 5228, .inl g0_all))] → va_S A s.heap H locs → lv_has ls 6 [(0, .ref a0), (1, .int x1), (2, .int x2), (3, .int x3)] → W p l e (headSpec wsX12_stem ({ frames := 2, cells := 0, slots := 0, locals := 51 } : Room)).room s m ([.ref a0] : List Value).toArray below meth c H locs 0 0 Q0 (F0 m 6 ls []) := by
    intro K
    induction K with
    | zero =>
      intro x1 x2 x3 H locs ls hf
      rw [fX12_stem_6] at hf
      cases hf
    | succ K ih =>
      intro x1 x2 x3 H locs ls hf hP hD hS hl
      rw [fX12_stem_6] at hf
      refine lv_iload_n hx hb dX12_stem_6 rfl (lv_at hl 3 rfl) ?_
      refine lv_aload_n hx hb dX12_stem_7 rfl (lv_at hl 0 rfl) ?_
      refine va_get (D := D.1) (ci := 9) (v := .ref a0_all) (C := RX12) (T := TX12) (N := 20) hx hb hts hwX12 hown hK.1 hP 0 rfl rfl 0 (by decide) l7 (fun _ h9 => h9) rfl dX12_stem_8 ?_
      refine lv_iconst (v := 0) hx hb dX12_stem_11 (by decide) ?_
      obtain ⟨h_1, hf⟩ := gd hf
      refine va_iald hx hb hK.1 hP 1 1 rfl rfl h_1 dX12_stem_12 ?_
      refine lv_icmp_ge (tgt := 129) hx hb dX12_stem_13 (by decide) (fun c_2 => ?_) (fun c_2 => ?_)
      · replace hf := ip c_2 hf
        refine lv_iload_n hx hb dX12_stem_129 rfl (lv_at hl 2 rfl) ?_
        have he := Option.some.inj hf
        rw [hQ]
        exact W.iret (v := x2) hx hb hr (fun t ht hW => by rw [← he]; exact ⟨⟨x2, (), rfl, rfl, by rw [ht]; exact hP, hD⟩, hS.F ht⟩) hS.2.2 dX12_stem_130
      · replace hf := im c_2 hf
        refine lv_iconst (v := 0) hx hb dX12_stem_16 (by decide) ?_
        refine lv_iload_n hx hb dX12_stem_17 rfl (lv_at hl 3 rfl) ?_
        obtain ⟨r3, hr3, hf⟩ := bd hf
        refine zSi (As := [.int (0 : Int32), .int x3]) (rest := []) (wn := [(a0, .inr (9, [.ref a0_all, .ref a0_tape, .ref a0_isImage, .int v0_taped, .int v0_faultKind, .int v0_faultPlace, .int v0_undos, .ref a0_turnWord, .ref a0_turnFrom, .int v0_turns, .ref a0_pieceSign, .ref a0_pieceFrom, .int v0_pieces, .int v0_signs, .ref a0_runFrom, .ref a0_runLong, .ref a0_runPiece, .int v0_runs, .ref a0_alike, .ref a0_stood])), (a0_all, .inl (D.2 1, 5228, .inl g0_all))]) ⟨hx, hb, hml, hown, hts⟩ (mX12_wordAt l D H.size (0 : Int32) x3 r3 hr3) (va_cwS 2 hts gX12_stem_X12_wordAt rfl rfl rfl (by decide +kernel) ⟨Nat.le_of_ble_eq_true rfl, Nat.le_of_ble_eq_true rfl⟩) hK hP hD hS hA [] [0, 1] [0, 1] rfl (by decide) rfl (by decide) (by decide) rfl (by decide) rfl hl.1 rfl (Nat.le_of_ble_eq_true rfl) dX12_stem_18 ⟨Nat.zero_le _, Nat.zero_le _⟩ (fun H locs hP hD hS => ?_)
        refine lv_istore (lv' := [(4, .int r3), (0, .ref a0), (1, .int x1), (2, .int x2), (3, .int x3)]) hx hb dX12_stem_21 hl (by decide) rfl (fun ls hl => ?_)
        refine lv_aload_n hx hb dX12_stem_23 rfl (lv_at hl 1 rfl) ?_
        refine lv_sipush (v := 430) hx hb dX12_stem_24 (by decide) ?_
        refine lv_iload hx hb dX12_stem_27 (lv_at hl 0 rfl) ?_
        obtain ⟨r4, hr4, hf⟩ := bd hf
        refine zVz (As := [.int (430 : Int32), .int r3]) (rest := []) (ci := 9) (q0 := 0) (wn := [(a0, .inr (9, [.ref a0_all, .ref a0_tape, .ref a0_isImage, .int v0_taped, .int v0_faultKind, .int v0_faultPlace, .int v0_undos, .ref a0_turnWord, .ref a0_turnFrom, .int v0_turns, .ref a0_pieceSign, .ref a0_pieceFrom, .int v0_pieces, .int v0_signs, .ref a0_runFrom, .ref a0_runLong, .ref a0_runPiece, .int v0_runs, .ref a0_alike, .ref a0_stood])), (a0_all, .inl (D.2 1, 5228, .inl g0_all))]) ⟨hx, hb, hml, hown, hts⟩ (mX12_meets l D a0 a0_all a0_tape a0_isImage a0_turnWord a0_turnFrom a0_pieceSign a0_pieceFrom a0_runFrom a0_runLong a0_runPiece a0_alike a0_stood H.size v0_taped v0_faultKind v0_faultPlace v0_undos v0_turns v0_pieces v0_signs v0_runs g0_all (430 : Int32) r3 N r4 hr4) (cwV 2 hts gX12_stem_X12_meets rfl rfl rfl (by decide +kernel) ⟨Nat.le_of_ble_eq_true rfl, Nat.le_of_ble_eq_true rfl⟩) hK hP hD hS hA [0, 1] [] [0, 1] rfl (by decide) rfl (by decide) (by decide) rfl (by decide) rfl rfl rfl hl.1 rfl (Nat.le_of_ble_eq_true rfl) dX12_stem_29 ⟨Nat.zero_le _, Nat.zero_le _⟩ (fun H locs hb_5 hP hD hS => ?_)
        refine lv_if_ne (tgt := 38) hx hb dX12_stem_32 (by decide) (fun c_6 => ?_) (fun c_6 => ?_)
        · replace hf := im c_6 hf
          refine lv_iconst (v := 0) hx hb dX12_stem_38 (by decide) ?_
          refine lv_istore (lv' := [(5, .int (0 : Int32)), (4, .int r3), (0, .ref a0), (1, .int x1), (2, .int x2), (3, .int x3)]) hx hb dX12_stem_39 hl (by decide) rfl (fun ls hl => ?_)
          exact k41 _ ih N x1 x2 x3 r3 (0 : Int32) H locs ls hf hP hD hS (lv_sub hl [2, 3, 4, 5, 1, 0] rfl)
        · replace hf := ip c_6 hf
          refine lv_goto (tgt := 123) hx hb dX12_stem_35 (by decide) ?_
          refine lv_iinc (v := (x3 + (1 : Int32))) (lv' := [(3, .int (x3 + (1 : Int32))), (4, .int r3), (0, .ref a0), (1, .int x1), (2, .int x2)]) hx hb dX12_stem_123 hl (k := 4) rfl rfl (by decide) rfl (fun ls hl => ?_)
          refine lv_goto (tgt := 6) hx hb dX12_stem_126 (by decide) ?_
          exact ih x1 x2 (x3 + (1 : Int32)) H locs ls hf hP hD hS (lv_sub hl [2, 3, 4, 0] rfl)
  unfold fX12_stem at hf
  refine lv_iconst (v := -1) hx hb dX12_stem_0 (by decide) ?_
  refine lv_istore_n (lv' := [(1, .int (-1 : Int32)), (0, .ref a0)]) hx hb dX12_stem_1 rfl hl (by decide) rfl (fun ls hl => ?_)
  refine lv_iconst (v := 0) hx hb dX12_stem_2 (by decide) ?_
  refine lv_istore_n (lv' := [(2, .int (0 : Int32)), (1, .int (-1 : Int32)), (0, .ref a0)]) hx hb dX12_stem_3 rfl hl (by decide) rfl (fun ls hl => ?_)
  refine lv_iconst (v := 0) hx hb dX12_stem_4 (by decide) ?_
  refine lv_istore_n (lv' := [(3, .int (0 : Int32)), (2, .int (0 : Int32)), (1, .int (-1 : Int32)), (0, .ref a0)]) hx hb dX12_stem_5 rfl hl (by decide) rfl (fun ls hl => ?_)
  exact k6 N (-1 : Int32) (0 : Int32) (0 : Int32) H locs ls hf hP hD hS (lv_sub hl [3, 2, 1, 0] rfl)
def fX12_mostAlike_84 (N : Nat) (g0_all : Nat → Int32) (p1 : Int32) (rec26 : Int32 → Int32 → (Nat → Int32) → Option (Int32 × (Nat → Int32))) (y0 : Int32) (x2 : Int32) (x3 : Int32) (g0_alike : Nat → Int32) : Option (Int32 × (Nat → Int32)) :=
  if y0 < 0 ∨ 128 ≤ (y0).toNatClampNeg then none else
  if y0 < 0 ∨ 128 ≤ (y0).toNatClampNeg then none else
  if y0 < 0 ∨ 128 ≤ (y0).toNatClampNeg then none else
  if ((upd g0_alike (y0).toNatClampNeg ((g0_alike (y0).toNatClampNeg) + (1 : Int32))) (y0).toNatClampNeg) ≤ x2 then
    rec26 x2 (x3 + (1 : Int32)) (upd g0_alike (y0).toNatClampNeg ((g0_alike (y0).toNatClampNeg) + (1 : Int32)))
  else
    if y0 < 0 ∨ 128 ≤ (y0).toNatClampNeg then none else
    rec26 ((upd g0_alike (y0).toNatClampNeg ((g0_alike (y0).toNatClampNeg) + (1 : Int32))) (y0).toNatClampNeg) (x3 + (1 : Int32)) (upd g0_alike (y0).toNatClampNeg ((g0_alike (y0).toNatClampNeg) + (1 : Int32)))
def fX12_mostAlike_26 (N : Nat) (g0_all : Nat → Int32) (p1 : Int32) : Nat → Int32 → Int32 → (Nat → Int32) → Option (Int32 × (Nat → Int32))
  | 0, _, _, _ => none
  | K + 1, x2, x3, g0_alike =>
    if (0 : Int32) < 0 ∨ 5228 ≤ ((0 : Int32)).toNatClampNeg then none else
    if (g0_all ((0 : Int32)).toNatClampNeg) ≤ x3 then
      some (x2, g0_alike)
    else
      Option.bind (fX12_wordAt (0 : Int32) x3) fun r5 =>
      Option.bind (fX12_meets N g0_all (430 : Int32) r5) fun r6 =>
      if r6 = (0 : Int32) then
        (fX12_mostAlike_26 N g0_all p1 K) x2 (x3 + (1 : Int32)) g0_alike
      else
        if r5 < 0 ∨ 5228 ≤ (r5).toNatClampNeg then none else
        if (g0_all (r5).toNatClampNeg) ≤ p1 then
          fX12_mostAlike_84 N g0_all p1 (fX12_mostAlike_26 N g0_all p1 K) (0 : Int32) x2 x3 g0_alike
        else
          if ((r5 + (1 : Int32)) + p1) < 0 ∨ 5228 ≤ (((r5 + (1 : Int32)) + p1)).toNatClampNeg then none else
          fX12_mostAlike_84 N g0_all p1 (fX12_mostAlike_26 N g0_all p1 K) (g0_all (((r5 + (1 : Int32)) + p1)).toNatClampNeg) x2 x3 g0_alike
def fX12_mostAlike_4 (N : Nat) (g0_all : Nat → Int32) (p1 : Int32) : Nat → Int32 → Int32 → (Nat → Int32) → Option (Int32 × (Nat → Int32))
  | 0, _, _, _ => none
  | K + 1, x2, x3, g0_alike =>
    if (128 : Int32) ≤ x3 then
      fX12_mostAlike_26 N g0_all p1 N x2 (0 : Int32) g0_alike
    else
      if x3 < 0 ∨ 128 ≤ (x3).toNatClampNeg then none else
      (fX12_mostAlike_4 N g0_all p1 K) x2 (x3 + (1 : Int32)) (upd g0_alike (x3).toNatClampNeg (0 : Int32))
def fX12_mostAlike (N : Nat) (g0_all : Nat → Int32) (g0_alike : Nat → Int32) (p1 : Int32) : Option (Int32 × (Nat → Int32)) :=
  fX12_mostAlike_4 N g0_all p1 N (0 : Int32) (0 : Int32) g0_alike
set_option maxHeartbeats 4000000 in
set_option maxRecDepth 100000 in
theorem mX12_mostAlike (l : Launch) (D : zG) (a0 : Nat) (a0_all : Nat) (a0_tape : Nat) (a0_isImage : Nat) (a0_turnWord : Nat) (a0_turnFrom : Nat) (a0_pieceSign : Nat) (a0_pieceFrom : Nat) (a0_runFrom : Nat) (a0_runLong : Nat) (a0_runPiece : Nat) (a0_alike : Nat) (a0_stood : Nat) (sz : Nat)  (v0_taped : Int32) (v0_faultKind : Int32) (v0_faultPlace : Int32) (v0_undos : Int32) (v0_turns : Int32) (v0_pieces : Int32) (v0_signs : Int32) (v0_runs : Int32) (g0_all : Nat → Int32) (g0_alike : Nat → Int32) (p1 : Int32) (N : Nat) (res : Int32 × (Nat → Int32)) (hf : fX12_mostAlike N g0_all g0_alike p1 = some res) : Met l yX12_mostAlike wsX12_mostAlike ({ frames := 2, cells := 0, slots := 0, locals := 51 } : Room) (va_Pc [.ref a0, .int p1] (zW D sz [(a0, .inr (9, [.ref a0_all, .ref a0_tape, .ref a0_isImage, .int v0_taped, .int v0_faultKind, .int v0_faultPlace, .int v0_undos, .ref a0_turnWord, .ref a0_turnFrom, .int v0_turns, .ref a0_pieceSign, .ref a0_pieceFrom, .int v0_pieces, .int v0_signs, .ref a0_runFrom, .ref a0_runLong, .ref a0_runPiece, .int v0_runs, .ref a0_alike, .ref a0_stood])), (a0_all, .inl (D.2 1, 5228, .inl g0_all)), (a0_alike, .inl (D.2 1, 128, .inl g0_alike))])) (va_Qi (fun r (_ : Unit) => r = res.1) (fun _ => zB D (va_A [(a0, .inr (9, [.ref a0_all, .ref a0_tape, .ref a0_isImage, .int v0_taped, .int v0_faultKind, .int v0_faultPlace, .int v0_undos, .ref a0_turnWord, .ref a0_turnFrom, .int v0_turns, .ref a0_pieceSign, .ref a0_pieceFrom, .int v0_pieces, .int v0_signs, .ref a0_runFrom, .ref a0_runLong, .ref a0_runPiece, .int v0_runs, .ref a0_alike, .ref a0_stood])), (a0_all, .inl (D.2 1, 5228, .inl g0_all)), (a0_alike, .inl (D.2 1, 128, .inl g0_alike))] sz) [(a0, .inr (9, [.ref a0_all, .ref a0_tape, .ref a0_isImage, .int v0_taped, .int v0_faultKind, .int v0_faultPlace, .int v0_undos, .ref a0_turnWord, .ref a0_turnFrom, .int v0_turns, .ref a0_pieceSign, .ref a0_pieceFrom, .int v0_pieces, .int v0_signs, .ref a0_runFrom, .ref a0_runLong, .ref a0_runPiece, .int v0_runs, .ref a0_alike, .ref a0_stood])), (a0_all, .inl (D.2 1, 5228, .inl g0_all)), (a0_alike, .inl (D.2 1, 128, .inl res.2))]) (va_A [(a0, .inr (9, [.ref a0_all, .ref a0_tape, .ref a0_isImage, .int v0_taped, .int v0_faultKind, .int v0_faultPlace, .int v0_undos, .ref a0_turnWord, .ref a0_turnFrom, .int v0_turns, .ref a0_pieceSign, .ref a0_pieceFrom, .int v0_pieces, .int v0_signs, .ref a0_runFrom, .ref a0_runLong, .ref a0_runPiece, .int v0_runs, .ref a0_alike, .ref a0_stood])), (a0_all, .inl (D.2 1, 5228, .inl g0_all)), (a0_alike, .inl (D.2 1, 128, .inl g0_alike))] sz)) 0 0 (va_A [(a0, .inr (9, [.ref a0_all, .ref a0_tape, .ref a0_isImage, .int v0_taped, .int v0_faultKind, .int v0_faultPlace, .int v0_undos, .ref a0_turnWord, .ref a0_turnFrom, .int v0_turns, .ref a0_pieceSign, .ref a0_pieceFrom, .int v0_pieces, .int v0_signs, .ref a0_runFrom, .ref a0_runLong, .ref a0_runPiece, .int v0_runs, .ref a0_alike, .ref a0_stood])), (a0_all, .inl (D.2 1, 5228, .inl g0_all)), (a0_alike, .inl (D.2 1, 128, .inl g0_alike))] sz) := by
  refine Met.ofW (cc := cX12_mostAlike) (maxL := 6) (ret := (some .int)) (by decide) rfl ?_
  intro p e s m args below meth c s₁ B hml hv
  obtain ⟨rfl, hsz, hP, hK, hD0⟩ := hv
  have hx := B.exec
  have hb := B.bytes
  have hr := B.returns
  have hts := atoms_spec (ws := wsX12_mostAlike) B.pre
  have hown : s.vm.findClass RX12 = some m.cls := findClass_of_methodNamed B.named
  have hlocks := B.notSynchronized
  subst hsz
  have hD := hD0.self (sz := s.heap.size)
  generalize hAe : va_A [(a0, .inr (9, [.ref a0_all, .ref a0_tape, .ref a0_isImage, .int v0_taped, .int v0_faultKind, .int v0_faultPlace, .int v0_undos, .ref a0_turnWord, .ref a0_turnFrom, .int v0_turns, .ref a0_pieceSign, .ref a0_pieceFrom, .int v0_pieces, .int v0_signs, .ref a0_runFrom, .ref a0_runLong, .ref a0_runPiece, .int v0_runs, .ref a0_alike, .ref a0_stood])), (a0_all, .inl (D.2 1, 5228, .inl g0_all)), (a0_alike, .inl (D.2 1, 128, .inl g0_alike))] s.heap.size = A at hD ⊢
  have hA : ∀ q : Nat, s.heap.size ≤ q → A q := fun q h => by rw [← hAe]; exact Or.inr h
  have l45 := zat hts 1 (w := .fieldLink RX12 45 "TurnedWordsModel" "alike" "[I") rfl
  have l7 := zat hts 2 (w := .fieldLink RX12 7 "TurnedWordsModel" "all" "[I") rfl
  have hwX12 : ∀ w ∈ u_ws RX12 TX12 20, w ∈ wsX12_mostAlike := fun w h => List.mem_cons_of_mem _ (List.mem_append_right _ h)
  have hl := lv_entry ([.ref a0, .int p1]) (n := 6) (Nat.le_of_ble_eq_true rfl)
  rw [lg_entry_eq]
  generalize (lg_sl ([.ref a0, .int p1]) ++ List.replicate (6 - (lg_sl ([.ref a0, .int p1])).length) Slot.unset).toArray = ls at hl ⊢
  have hl : lv_has ls 6 [(0, .ref a0), (1, .int p1)] := hl
  refine zStart (A := A) hP (fun Q0 H locs hQ hP hS => ?_)
  have k84 : ∀ (rec26 : Int32 → Int32 → (Nat → Int32) → Option (Int32 × (Nat → Int32))), (∀ (x2 : Int32) (x3 : Int32) (g0_alike : Nat → Int32) (H : Heap) (locs : List Loc) (ls : Array Slot), rec26 x2 x3 g0_alike = some res → va_P D.1 vwCl [(a0, .inr (9, [.ref a0_all, .ref a0_tape, .ref a0_isImage, .int v0_taped, .int v0_faultKind, .int v0_faultPlace, .int v0_undos, .ref a0_turnWord, .ref a0_turnFrom, .int v0_turns, .ref a0_pieceSign, .ref a0_pieceFrom, .int v0_pieces, .int v0_signs, .ref a0_runFrom, .ref a0_runLong, .ref a0_runPiece, .int v0_runs, .ref a0_alike, .ref a0_stood])), (a0_all, .inl (D.2 1, 5228, .inl g0_all)), (a0_alike, .inl (D.2 1, 128, .inl g0_alike))] H → va_D A [(a0, .inr (9, [.ref a0_all, .ref a0_tape, .ref a0_isImage, .int v0_taped, .int v0_faultKind, .int v0_faultPlace, .int v0_undos, .ref a0_turnWord, .ref a0_turnFrom, .int v0_turns, .ref a0_pieceSign, .ref a0_pieceFrom, .int v0_pieces, .int v0_signs, .ref a0_runFrom, .ref a0_runLong, .ref a0_runPiece, .int v0_runs, .ref a0_alike, .ref a0_stood])), (a0_all, .inl (D.2 1, 5228, .inl g0_all)), (a0_alike, .inl (D.2 1, 128, .inl g0_alike))] → va_S A s.heap H locs → lv_has ls 6 [(0, .ref a0), (1, .int p1), (2, .int x2), (3, .int x3)] → W p l e (headSpec wsX12_mostAlike ({ frames := 2, cells := 0, slots := 0, locals := 51 } : Room)).room s m ([.ref a0, .int p1] : List Value).toArray below meth c H locs 0 0 Q0 (F0 m 26 ls [])) → ∀ (y0 : Int32) (x2 : Int32) (x3 : Int32) (g0_alike : Nat → Int32) (H : Heap) (locs : List Loc) (ls : Array Slot), fX12_mostAlike_84 N g0_all p1 rec26 y0 x2 x3 g0_alike = some res → va_P D.1 vwCl [(a0, .inr (9, [.ref a0_all, .ref a0_tape, .ref a0_isImage, .int v0_taped, .int v0_faultKind, .int v0_faultPlace, .int v0_undos, .ref a0_turnWord, .ref a0_turnFrom, .int v0_turns, .ref a0_pieceSign, .ref a0_pieceFrom, .int v0_pieces, .int v0_signs, .ref a0_runFrom, .ref a0_runLong, .ref a0_runPiece, .int v0_runs, .ref a0_alike, .ref a0_stood])), (a0_all, .inl (D.2 1, 5228, .inl g0_all)), (a0_alike, .inl (D.2 1, 128, .inl g0_alike))] H → va_D A [(a0, .inr (9, [.ref a0_all, .ref a0_tape, .ref a0_isImage, .int v0_taped, .int v0_faultKind, .int v0_faultPlace, .int v0_undos, .ref a0_turnWord, .ref a0_turnFrom, .int v0_turns, .ref a0_pieceSign, .ref a0_pieceFrom, .int v0_pieces, .int v0_signs, .ref a0_runFrom, .ref a0_runLong, .ref a0_runPiece, .int v0_runs, .ref a0_alike, .ref a0_stood])), (a0_all, .inl (D.2 1, 5228, .inl g0_all)), (a0_alike, .inl (D.2 1, 128, .inl g0_alike))] → va_S A s.heap H locs → lv_has ls 6 [(0, .ref a0), (1, .int p1), (2, .int x2), (3, .int x3)] → W p l e (headSpec wsX12_mostAlike ({ frames := 2, cells := 0, slots := 0, locals := 51 } : Room)).room s m ([.ref a0, .int p1] : List Value).toArray below meth c H locs 0 0 Q0 (F0 m 84 ls [.int y0]) := by
    intro rec26 hrec26 y0 x2 x3 g0_alike H locs ls hf hP hD hS hl
    unfold fX12_mostAlike_84 at hf
    refine lv_istore (lv' := [(5, .int y0), (0, .ref a0), (1, .int p1), (2, .int x2), (3, .int x3)]) hx hb dX12_mostAlike_84 hl (by decide) rfl (fun ls hl => ?_)
    refine lv_aload_n hx hb dX12_mostAlike_86 rfl (lv_at hl 1 rfl) ?_
    refine va_get (D := D.1) (ci := 9) (v := .ref a0_alike) (C := RX12) (T := TX12) (N := 20) hx hb hts hwX12 hown hK.1 hP 0 rfl rfl 18 (by decide) l45 (fun _ h9 => h9) rfl dX12_mostAlike_87 ?_
    refine lv_iload hx hb dX12_mostAlike_90 (lv_at hl 0 rfl) ?_
    refine lv_dup2_11 hx hb dX12_mostAlike_92 rfl rfl ?_
    obtain ⟨h_12, hf⟩ := gd hf
    refine va_iald hx hb hK.1 hP 2 1 rfl rfl h_12 dX12_mostAlike_93 ?_
    refine lv_iconst (v := 1) hx hb dX12_mostAlike_94 (by decide) ?_
    refine lv_iadd hx hb dX12_mostAlike_95 ?_
    obtain ⟨h_13, hf⟩ := gd hf
    refine va_iast hx hb hK.1 hP hD hS 2 1 rfl rfl h_13 dX12_mostAlike_96 (fun H locs hP hD hS => ?_)
    have hP : va_P D.1 vwCl [(a0, .inr (9, [.ref a0_all, .ref a0_tape, .ref a0_isImage, .int v0_taped, .int v0_faultKind, .int v0_faultPlace, .int v0_undos, .ref a0_turnWord, .ref a0_turnFrom, .int v0_turns, .ref a0_pieceSign, .ref a0_pieceFrom, .int v0_pieces, .int v0_signs, .ref a0_runFrom, .ref a0_runLong, .ref a0_runPiece, .int v0_runs, .ref a0_alike, .ref a0_stood])), (a0_all, .inl (D.2 1, 5228, .inl g0_all)), (a0_alike, .inl (D.2 1, 128, .inl (upd g0_alike (y0).toNatClampNeg ((g0_alike (y0).toNatClampNeg) + (1 : Int32)))))] H := hP
    have hD : va_D A [(a0, .inr (9, [.ref a0_all, .ref a0_tape, .ref a0_isImage, .int v0_taped, .int v0_faultKind, .int v0_faultPlace, .int v0_undos, .ref a0_turnWord, .ref a0_turnFrom, .int v0_turns, .ref a0_pieceSign, .ref a0_pieceFrom, .int v0_pieces, .int v0_signs, .ref a0_runFrom, .ref a0_runLong, .ref a0_runPiece, .int v0_runs, .ref a0_alike, .ref a0_stood])), (a0_all, .inl (D.2 1, 5228, .inl g0_all)), (a0_alike, .inl (D.2 1, 128, .inl (upd g0_alike (y0).toNatClampNeg ((g0_alike (y0).toNatClampNeg) + (1 : Int32)))))] := hD
    refine lv_aload_n hx hb dX12_mostAlike_97 rfl (lv_at hl 1 rfl) ?_
    refine va_get (D := D.1) (ci := 9) (v := .ref a0_alike) (C := RX12) (T := TX12) (N := 20) hx hb hts hwX12 hown hK.1 hP 0 rfl rfl 18 (by decide) l45 (fun _ h9 => h9) rfl dX12_mostAlike_98 ?_
    refine lv_iload hx hb dX12_mostAlike_101 (lv_at hl 0 rfl) ?_
    obtain ⟨h_14, hf⟩ := gd hf
    refine va_iald hx hb hK.1 hP 2 1 rfl rfl h_14 dX12_mostAlike_103 ?_
    refine lv_iload_n hx hb dX12_mostAlike_104 rfl (lv_at hl 3 rfl) ?_
    refine lv_icmp_le (tgt := 118) hx hb dX12_mostAlike_105 (by decide) (fun c_15 => ?_) (fun c_15 => ?_)
    · replace hf := ip c_15 hf
      refine lv_iload_n hx hb dX12_mostAlike_118 rfl (lv_at hl 3 rfl) ?_
      refine lv_istore_n (lv' := [(2, .int x2), (5, .int y0), (0, .ref a0), (1, .int p1), (3, .int x3)]) hx hb dX12_mostAlike_119 rfl hl (by decide) rfl (fun ls hl => ?_)
      refine lv_iinc (v := (x3 + (1 : Int32))) (lv' := [(3, .int (x3 + (1 : Int32))), (2, .int x2), (5, .int y0), (0, .ref a0), (1, .int p1)]) hx hb dX12_mostAlike_120 hl (k := 4) rfl rfl (by decide) rfl (fun ls hl => ?_)
      refine lv_goto (tgt := 26) hx hb dX12_mostAlike_123 (by decide) ?_
      exact hrec26 x2 (x3 + (1 : Int32)) (upd g0_alike (y0).toNatClampNeg ((g0_alike (y0).toNatClampNeg) + (1 : Int32))) H locs ls hf hP hD hS (lv_sub hl [3, 4, 1, 0] rfl)
    · replace hf := im c_15 hf
      refine lv_aload_n hx hb dX12_mostAlike_108 rfl (lv_at hl 1 rfl) ?_
      refine va_get (D := D.1) (ci := 9) (v := .ref a0_alike) (C := RX12) (T := TX12) (N := 20) hx hb hts hwX12 hown hK.1 hP 0 rfl rfl 18 (by decide) l45 (fun _ h9 => h9) rfl dX12_mostAlike_109 ?_
      refine lv_iload hx hb dX12_mostAlike_112 (lv_at hl 0 rfl) ?_
      obtain ⟨h_16, hf⟩ := gd hf
      refine va_iald hx hb hK.1 hP 2 1 rfl rfl h_16 dX12_mostAlike_114 ?_
      refine lv_goto (tgt := 119) hx hb dX12_mostAlike_115 (by decide) ?_
      refine lv_istore_n (lv' := [(2, .int ((upd g0_alike (y0).toNatClampNeg ((g0_alike (y0).toNatClampNeg) + (1 : Int32))) (y0).toNatClampNeg)), (5, .int y0), (0, .ref a0), (1, .int p1), (3, .int x3)]) hx hb dX12_mostAlike_119 rfl hl (by decide) rfl (fun ls hl => ?_)
      refine lv_iinc (v := (x3 + (1 : Int32))) (lv' := [(3, .int (x3 + (1 : Int32))), (2, .int ((upd g0_alike (y0).toNatClampNeg ((g0_alike (y0).toNatClampNeg) + (1 : Int32))) (y0).toNatClampNeg)), (5, .int y0), (0, .ref a0), (1, .int p1)]) hx hb dX12_mostAlike_120 hl (k := 4) rfl rfl (by decide) rfl (fun ls hl => ?_)
      refine lv_goto (tgt := 26) hx hb dX12_mostAlike_123 (by decide) ?_
      exact hrec26 ((upd g0_alike (y0).toNatClampNeg ((g0_alike (y0).toNatClampNeg) + (1 : Int32))) (y0).toNatClampNeg) (x3 + (1 : Int32)) (upd g0_alike (y0).toNatClampNeg ((g0_alike (y0).toNatClampNeg) + (1 : Int32))) H locs ls hf hP hD hS (lv_sub hl [3, 4, 1, 0] rfl)
  have k26 : ∀ K : Nat, ∀ (x2 : Int32) (x3 : Int32) (g0_alike : Nat → Int32) (H : Heap) (locs : List Loc) (ls : Array Slot), fX12_mostAlike_26 N g0_all p1 K x2 x3 g0_alike = some res → va_P D.1 vwCl [(a0, .inr (9, [.ref a0_all, .ref a0_tape, .ref a0_isImage, .int v0_taped, .int v0_faultKind, .int v0_faultPlace, .int v0_undos, .ref a0_turnWord, .ref a0_turnFrom, .int v0_turns, .ref a0_pieceSign, .ref a0_pieceFrom, .int v0_pieces, .int v0_signs, .ref a0_runFrom, .ref a0_runLong, .ref a0_runPiece, .int v0_runs, .ref a0_alike, .ref a0_stood])), (a0_all, .inl (D.2 1, 5228, .inl g0_all)), (a0_alike, .inl (D.2 1, 128, .inl g0_alike))] H → va_D A [(a0, .inr (9, [.ref a0_all, .ref a0_tape, .ref a0_isImage, .int v0_taped, .int v0_faultKind, .int v0_faultPlace, .int v0_undos, .ref a0_turnWord, .ref a0_turnFrom, .int v0_turns, .ref a0_pieceSign, .ref a0_pieceFrom, .int v0_pieces, .int v0_signs, .ref a0_runFrom, .ref a0_runLong, .ref a0_runPiece, .int v0_runs, .ref a0_alike, .ref a0_stood])), (a0_all, .inl (D.2 1, 5228, .inl g0_all)), (a0_alike, .inl (D.2 1, 128, .inl g0_alike))] → va_S A s.heap H locs → lv_has ls 6 [(0, .ref a0), (1, .int p1), (2, .int x2), (3, .int x3)] → W p l e (headSpec wsX12_mostAlike ({ frames := 2, cells := 0, slots := 0, locals := 51 } : Room)).room s m ([.ref a0, .int p1] : List Value).toArray below meth c H locs 0 0 Q0 (F0 m 26 ls []) := by
    intro K
    induction K with
    | zero =>
      intro x2 x3 g0_alike H locs ls hf
      rw [fX12_mostAlike_26] at hf
      cases hf
    | succ K ih =>
      intro x2 x3 g0_alike H locs ls hf hP hD hS hl
      rw [fX12_mostAlike_26] at hf
      refine lv_iload_n hx hb dX12_mostAlike_26 rfl (lv_at hl 3 rfl) ?_
      refine lv_aload_n hx hb dX12_mostAlike_27 rfl (lv_at hl 0 rfl) ?_
      refine va_get (D := D.1) (ci := 9) (v := .ref a0_all) (C := RX12) (T := TX12) (N := 20) hx hb hts hwX12 hown hK.1 hP 0 rfl rfl 0 (by decide) l7 (fun _ h9 => h9) rfl dX12_mostAlike_28 ?_
      refine lv_iconst (v := 0) hx hb dX12_mostAlike_31 (by decide) ?_
      obtain ⟨h_3, hf⟩ := gd hf
      refine va_iald hx hb hK.1 hP 1 1 rfl rfl h_3 dX12_mostAlike_32 ?_
      refine lv_icmp_ge (tgt := 126) hx hb dX12_mostAlike_33 (by decide) (fun c_4 => ?_) (fun c_4 => ?_)
      · replace hf := ip c_4 hf
        refine lv_iload_n hx hb dX12_mostAlike_126 rfl (lv_at hl 2 rfl) ?_
        have he := Option.some.inj hf
        rw [hQ]
        exact W.iret (v := x2) hx hb hr (fun t ht hW => by rw [← he]; exact ⟨⟨x2, (), rfl, rfl, by rw [ht]; exact hP, hD⟩, hS.F ht⟩) hS.2.2 dX12_mostAlike_127
      · replace hf := im c_4 hf
        refine lv_iconst (v := 0) hx hb dX12_mostAlike_36 (by decide) ?_
        refine lv_iload_n hx hb dX12_mostAlike_37 rfl (lv_at hl 3 rfl) ?_
        obtain ⟨r5, hr5, hf⟩ := bd hf
        refine zSi (As := [.int (0 : Int32), .int x3]) (rest := []) (wn := [(a0, .inr (9, [.ref a0_all, .ref a0_tape, .ref a0_isImage, .int v0_taped, .int v0_faultKind, .int v0_faultPlace, .int v0_undos, .ref a0_turnWord, .ref a0_turnFrom, .int v0_turns, .ref a0_pieceSign, .ref a0_pieceFrom, .int v0_pieces, .int v0_signs, .ref a0_runFrom, .ref a0_runLong, .ref a0_runPiece, .int v0_runs, .ref a0_alike, .ref a0_stood])), (a0_all, .inl (D.2 1, 5228, .inl g0_all)), (a0_alike, .inl (D.2 1, 128, .inl g0_alike))]) ⟨hx, hb, hml, hown, hts⟩ (mX12_wordAt l D H.size (0 : Int32) x3 r5 hr5) (va_cwS 2 hts gX12_mostAlike_X12_wordAt rfl rfl rfl (by decide +kernel) ⟨Nat.le_of_ble_eq_true rfl, Nat.le_of_ble_eq_true rfl⟩) hK hP hD hS hA [] [0, 1, 2] [0, 1, 2] rfl (by decide) rfl (by decide) (by decide) rfl (by decide) rfl hl.1 rfl (Nat.le_of_ble_eq_true rfl) dX12_mostAlike_38 ⟨Nat.zero_le _, Nat.zero_le _⟩ (fun H locs hP hD hS => ?_)
        refine lv_istore (lv' := [(4, .int r5), (0, .ref a0), (1, .int p1), (2, .int x2), (3, .int x3)]) hx hb dX12_mostAlike_41 hl (by decide) rfl (fun ls hl => ?_)
        refine lv_aload_n hx hb dX12_mostAlike_43 rfl (lv_at hl 1 rfl) ?_
        refine lv_sipush (v := 430) hx hb dX12_mostAlike_44 (by decide) ?_
        refine lv_iload hx hb dX12_mostAlike_47 (lv_at hl 0 rfl) ?_
        obtain ⟨r6, hr6, hf⟩ := bd hf
        refine zVz (As := [.int (430 : Int32), .int r5]) (rest := []) (ci := 9) (q0 := 0) (wn := [(a0, .inr (9, [.ref a0_all, .ref a0_tape, .ref a0_isImage, .int v0_taped, .int v0_faultKind, .int v0_faultPlace, .int v0_undos, .ref a0_turnWord, .ref a0_turnFrom, .int v0_turns, .ref a0_pieceSign, .ref a0_pieceFrom, .int v0_pieces, .int v0_signs, .ref a0_runFrom, .ref a0_runLong, .ref a0_runPiece, .int v0_runs, .ref a0_alike, .ref a0_stood])), (a0_all, .inl (D.2 1, 5228, .inl g0_all)), (a0_alike, .inl (D.2 1, 128, .inl g0_alike))]) ⟨hx, hb, hml, hown, hts⟩ (mX12_meets l D a0 a0_all a0_tape a0_isImage a0_turnWord a0_turnFrom a0_pieceSign a0_pieceFrom a0_runFrom a0_runLong a0_runPiece a0_alike a0_stood H.size v0_taped v0_faultKind v0_faultPlace v0_undos v0_turns v0_pieces v0_signs v0_runs g0_all (430 : Int32) r5 N r6 hr6) (cwV 2 hts gX12_mostAlike_X12_meets rfl rfl rfl (by decide +kernel) ⟨Nat.le_of_ble_eq_true rfl, Nat.le_of_ble_eq_true rfl⟩) hK hP hD hS hA [0, 1] [2] [1, 2, 0] rfl (by decide) rfl (by decide) (by decide) rfl (by decide) rfl rfl rfl hl.1 rfl (Nat.le_of_ble_eq_true rfl) dX12_mostAlike_49 ⟨Nat.zero_le _, Nat.zero_le _⟩ (fun H locs hb_7 hP hD hS => ?_)
        refine lv_if_ne (tgt := 58) hx hb dX12_mostAlike_52 (by decide) (fun c_8 => ?_) (fun c_8 => ?_)
        · replace hf := im c_8 hf
          refine lv_iload_n hx hb dX12_mostAlike_58 rfl (lv_at hl 2 rfl) ?_
          refine lv_aload_n hx hb dX12_mostAlike_59 rfl (lv_at hl 1 rfl) ?_
          refine va_get (D := D.1) (ci := 9) (v := .ref a0_all) (C := RX12) (T := TX12) (N := 20) hx hb hts hwX12 hown hK.1 hP 0 rfl rfl 0 (by decide) l7 (fun _ h9 => h9) rfl dX12_mostAlike_60 ?_
          refine lv_iload hx hb dX12_mostAlike_63 (lv_at hl 0 rfl) ?_
          obtain ⟨h_9, hf⟩ := gd hf
          refine va_iald hx hb hK.1 hP 1 1 rfl rfl h_9 dX12_mostAlike_65 ?_
          refine lv_icmp_ge (tgt := 83) hx hb dX12_mostAlike_66 (by decide) (fun c_10 => ?_) (fun c_10 => ?_)
          · replace hf := ip c_10 hf
            refine lv_iconst (v := 0) hx hb dX12_mostAlike_83 (by decide) ?_
            exact k84 _ ih (0 : Int32) x2 x3 g0_alike H locs ls hf hP hD hS (lv_sub hl [1, 2, 3, 4] rfl)
          · replace hf := im c_10 hf
            refine lv_aload_n hx hb dX12_mostAlike_69 rfl (lv_at hl 1 rfl) ?_
            refine va_get (D := D.1) (ci := 9) (v := .ref a0_all) (C := RX12) (T := TX12) (N := 20) hx hb hts hwX12 hown hK.1 hP 0 rfl rfl 0 (by decide) l7 (fun _ h9 => h9) rfl dX12_mostAlike_70 ?_
            refine lv_iload hx hb dX12_mostAlike_73 (lv_at hl 0 rfl) ?_
            refine lv_iconst (v := 1) hx hb dX12_mostAlike_75 (by decide) ?_
            refine lv_iadd hx hb dX12_mostAlike_76 ?_
            refine lv_iload_n hx hb dX12_mostAlike_77 rfl (lv_at hl 2 rfl) ?_
            refine lv_iadd hx hb dX12_mostAlike_78 ?_
            obtain ⟨h_11, hf⟩ := gd hf
            refine va_iald hx hb hK.1 hP 1 1 rfl rfl h_11 dX12_mostAlike_79 ?_
            refine lv_goto (tgt := 84) hx hb dX12_mostAlike_80 (by decide) ?_
            exact k84 _ ih (g0_all (((r5 + (1 : Int32)) + p1)).toNatClampNeg) x2 x3 g0_alike H locs ls hf hP hD hS (lv_sub hl [1, 2, 3, 4] rfl)
        · replace hf := ip c_8 hf
          refine lv_goto (tgt := 120) hx hb dX12_mostAlike_55 (by decide) ?_
          refine lv_iinc (v := (x3 + (1 : Int32))) (lv' := [(3, .int (x3 + (1 : Int32))), (4, .int r5), (0, .ref a0), (1, .int p1), (2, .int x2)]) hx hb dX12_mostAlike_120 hl (k := 4) rfl rfl (by decide) rfl (fun ls hl => ?_)
          refine lv_goto (tgt := 26) hx hb dX12_mostAlike_123 (by decide) ?_
          exact ih x2 (x3 + (1 : Int32)) g0_alike H locs ls hf hP hD hS (lv_sub hl [2, 3, 4, 0] rfl)
  have k4 : ∀ K : Nat, ∀ (x2 : Int32) (x3 : Int32) (g0_alike : Nat → Int32) (H : Heap) (locs : List Loc) (ls : Array Slot), fX12_mostAlike_4 N g0_all p1 K x2 x3 g0_alike = some res → va_P D.1 vwCl [(a0, .inr (9, [.ref a0_all, .ref a0_tape, .ref a0_isImage, .int v0_taped, .int v0_faultKind, .int v0_faultPlace, .int v0_undos, .ref a0_turnWord, .ref a0_turnFrom, .int v0_turns, .ref a0_pieceSign, .ref a0_pieceFrom, .int v0_pieces, .int v0_signs, .ref a0_runFrom, .ref a0_runLong, .ref a0_runPiece, .int v0_runs, .ref a0_alike, .ref a0_stood])), (a0_all, .inl (D.2 1, 5228, .inl g0_all)), (a0_alike, .inl (D.2 1, 128, .inl g0_alike))] H → va_D A [(a0, .inr (9, [.ref a0_all, .ref a0_tape, .ref a0_isImage, .int v0_taped, .int v0_faultKind, .int v0_faultPlace, .int v0_undos, .ref a0_turnWord, .ref a0_turnFrom, .int v0_turns, .ref a0_pieceSign, .ref a0_pieceFrom, .int v0_pieces, .int v0_signs, .ref a0_runFrom, .ref a0_runLong, .ref a0_runPiece, .int v0_runs, .ref a0_alike, .ref a0_stood])), (a0_all, .inl (D.2 1, 5228, .inl g0_all)), (a0_alike, .inl (D.2 1, 128, .inl g0_alike))] → va_S A s.heap H locs → lv_has ls 6 [(0, .ref a0), (1, .int p1), (2, .int x2), (3, .int x3)] → W p l e (headSpec wsX12_mostAlike ({ frames := 2, cells := 0, slots := 0, locals := 51 } : Room)).room s m ([.ref a0, .int p1] : List Value).toArray below meth c H locs 0 0 Q0 (F0 m 4 ls []) := by
    intro K
    induction K with
    | zero =>
      intro x2 x3 g0_alike H locs ls hf
      rw [fX12_mostAlike_4] at hf
      cases hf
    | succ K ih =>
      intro x2 x3 g0_alike H locs ls hf hP hD hS hl
      rw [fX12_mostAlike_4] at hf
      refine lv_iload_n hx hb dX12_mostAlike_4 rfl (lv_at hl 3 rfl) ?_
      refine lv_sipush (v := 128) hx hb dX12_mostAlike_5 (by decide) ?_
      refine lv_icmp_ge (tgt := 24) hx hb dX12_mostAlike_8 (by decide) (fun c_1 => ?_) (fun c_1 => ?_)
      · replace hf := ip c_1 hf
        refine lv_iconst (v := 0) hx hb dX12_mostAlike_24 (by decide) ?_
        refine lv_istore_n (lv' := [(3, .int (0 : Int32)), (0, .ref a0), (1, .int p1), (2, .int x2)]) hx hb dX12_mostAlike_25 rfl hl (by decide) rfl (fun ls hl => ?_)
        exact k26 N x2 (0 : Int32) g0_alike H locs ls hf hP hD hS (lv_sub hl [1, 2, 3, 0] rfl)
      · replace hf := im c_1 hf
        refine lv_aload_n hx hb dX12_mostAlike_11 rfl (lv_at hl 0 rfl) ?_
        refine va_get (D := D.1) (ci := 9) (v := .ref a0_alike) (C := RX12) (T := TX12) (N := 20) hx hb hts hwX12 hown hK.1 hP 0 rfl rfl 18 (by decide) l45 (fun _ h9 => h9) rfl dX12_mostAlike_12 ?_
        refine lv_iload_n hx hb dX12_mostAlike_15 rfl (lv_at hl 3 rfl) ?_
        refine lv_iconst (v := 0) hx hb dX12_mostAlike_16 (by decide) ?_
        obtain ⟨h_2, hf⟩ := gd hf
        refine va_iast hx hb hK.1 hP hD hS 2 1 rfl rfl h_2 dX12_mostAlike_17 (fun H locs hP hD hS => ?_)
        have hP : va_P D.1 vwCl [(a0, .inr (9, [.ref a0_all, .ref a0_tape, .ref a0_isImage, .int v0_taped, .int v0_faultKind, .int v0_faultPlace, .int v0_undos, .ref a0_turnWord, .ref a0_turnFrom, .int v0_turns, .ref a0_pieceSign, .ref a0_pieceFrom, .int v0_pieces, .int v0_signs, .ref a0_runFrom, .ref a0_runLong, .ref a0_runPiece, .int v0_runs, .ref a0_alike, .ref a0_stood])), (a0_all, .inl (D.2 1, 5228, .inl g0_all)), (a0_alike, .inl (D.2 1, 128, .inl (upd g0_alike (x3).toNatClampNeg (0 : Int32))))] H := hP
        have hD : va_D A [(a0, .inr (9, [.ref a0_all, .ref a0_tape, .ref a0_isImage, .int v0_taped, .int v0_faultKind, .int v0_faultPlace, .int v0_undos, .ref a0_turnWord, .ref a0_turnFrom, .int v0_turns, .ref a0_pieceSign, .ref a0_pieceFrom, .int v0_pieces, .int v0_signs, .ref a0_runFrom, .ref a0_runLong, .ref a0_runPiece, .int v0_runs, .ref a0_alike, .ref a0_stood])), (a0_all, .inl (D.2 1, 5228, .inl g0_all)), (a0_alike, .inl (D.2 1, 128, .inl (upd g0_alike (x3).toNatClampNeg (0 : Int32))))] := hD
        refine lv_iinc (v := (x3 + (1 : Int32))) (lv' := [(3, .int (x3 + (1 : Int32))), (0, .ref a0), (1, .int p1), (2, .int x2)]) hx hb dX12_mostAlike_18 hl (k := 3) rfl rfl (by decide) rfl (fun ls hl => ?_)
        refine lv_goto (tgt := 4) hx hb dX12_mostAlike_21 (by decide) ?_
        exact ih x2 (x3 + (1 : Int32)) (upd g0_alike (x3).toNatClampNeg (0 : Int32)) H locs ls hf hP hD hS (lv_sub hl [1, 2, 3, 0] rfl)
  unfold fX12_mostAlike at hf
  refine lv_iconst (v := 0) hx hb dX12_mostAlike_0 (by decide) ?_
  refine lv_istore_n (lv' := [(2, .int (0 : Int32)), (0, .ref a0), (1, .int p1)]) hx hb dX12_mostAlike_1 rfl hl (by decide) rfl (fun ls hl => ?_)
  refine lv_iconst (v := 0) hx hb dX12_mostAlike_2 (by decide) ?_
  refine lv_istore_n (lv' := [(3, .int (0 : Int32)), (2, .int (0 : Int32)), (0, .ref a0), (1, .int p1)]) hx hb dX12_mostAlike_3 rfl hl (by decide) rfl (fun ls hl => ?_)
  exact k4 N (0 : Int32) (0 : Int32) g0_alike H locs ls hf hP hD hS (lv_sub hl [2, 3, 1, 0] rfl)
def fX12_asks_4 (N : Nat) (g0_all : Nat → Int32) : Nat → Int32 → Int32 → (Nat → Int32) → Option (Int32 × (Nat → Int32))
  | 0, _, _, _ => none
  | K + 1, x1, x2, g0_alike =>
    if (7 : Int32) ≤ x2 then
      Option.bind (fX12_answers N g0_all (0 : Int32) (430 : Int32)) fun r2 =>
      if r2 = (0 : Int32) then
        some ((-1 : Int32), g0_alike)
      else
        some (x1, g0_alike)
    else
      Option.bind (fX12_mostAlike N g0_all g0_alike x2) fun r4 =>
      Option.bind (fX12_mostAlike N g0_all r4.2 x1) fun r5 =>
      if r5.1 ≤ r4.1 then
        (fX12_asks_4 N g0_all K) x1 (x2 + (1 : Int32)) r5.2
      else
        (fX12_asks_4 N g0_all K) x2 (x2 + (1 : Int32)) r5.2
def fX12_asks (N : Nat) (g0_all : Nat → Int32) (g0_alike : Nat → Int32) : Option (Int32 × (Nat → Int32)) :=
  fX12_asks_4 N g0_all N (0 : Int32) (1 : Int32) g0_alike
set_option maxHeartbeats 4000000 in
set_option maxRecDepth 100000 in
theorem mX12_asks (l : Launch) (D : zG) (a0 : Nat) (a0_all : Nat) (a0_tape : Nat) (a0_isImage : Nat) (a0_turnWord : Nat) (a0_turnFrom : Nat) (a0_pieceSign : Nat) (a0_pieceFrom : Nat) (a0_runFrom : Nat) (a0_runLong : Nat) (a0_runPiece : Nat) (a0_alike : Nat) (a0_stood : Nat) (sz : Nat)  (v0_taped : Int32) (v0_faultKind : Int32) (v0_faultPlace : Int32) (v0_undos : Int32) (v0_turns : Int32) (v0_pieces : Int32) (v0_signs : Int32) (v0_runs : Int32) (g0_all : Nat → Int32) (g0_alike : Nat → Int32)  (N : Nat) (res : Int32 × (Nat → Int32)) (hf : fX12_asks N g0_all g0_alike = some res) : Met l yX12_asks wsX12_asks ({ frames := 3, cells := 0, slots := 0, locals := 76 } : Room) (va_Pc [.ref a0] (zW D sz [(a0, .inr (9, [.ref a0_all, .ref a0_tape, .ref a0_isImage, .int v0_taped, .int v0_faultKind, .int v0_faultPlace, .int v0_undos, .ref a0_turnWord, .ref a0_turnFrom, .int v0_turns, .ref a0_pieceSign, .ref a0_pieceFrom, .int v0_pieces, .int v0_signs, .ref a0_runFrom, .ref a0_runLong, .ref a0_runPiece, .int v0_runs, .ref a0_alike, .ref a0_stood])), (a0_all, .inl (D.2 1, 5228, .inl g0_all)), (a0_alike, .inl (D.2 1, 128, .inl g0_alike))])) (va_Qi (fun r (_ : Unit) => r = res.1) (fun _ => zB D (va_A [(a0, .inr (9, [.ref a0_all, .ref a0_tape, .ref a0_isImage, .int v0_taped, .int v0_faultKind, .int v0_faultPlace, .int v0_undos, .ref a0_turnWord, .ref a0_turnFrom, .int v0_turns, .ref a0_pieceSign, .ref a0_pieceFrom, .int v0_pieces, .int v0_signs, .ref a0_runFrom, .ref a0_runLong, .ref a0_runPiece, .int v0_runs, .ref a0_alike, .ref a0_stood])), (a0_all, .inl (D.2 1, 5228, .inl g0_all)), (a0_alike, .inl (D.2 1, 128, .inl g0_alike))] sz) [(a0, .inr (9, [.ref a0_all, .ref a0_tape, .ref a0_isImage, .int v0_taped, .int v0_faultKind, .int v0_faultPlace, .int v0_undos, .ref a0_turnWord, .ref a0_turnFrom, .int v0_turns, .ref a0_pieceSign, .ref a0_pieceFrom, .int v0_pieces, .int v0_signs, .ref a0_runFrom, .ref a0_runLong, .ref a0_runPiece, .int v0_runs, .ref a0_alike, .ref a0_stood])), (a0_all, .inl (D.2 1, 5228, .inl g0_all)), (a0_alike, .inl (D.2 1, 128, .inl res.2))]) (va_A [(a0, .inr (9, [.ref a0_all, .ref a0_tape, .ref a0_isImage, .int v0_taped, .int v0_faultKind, .int v0_faultPlace, .int v0_undos, .ref a0_turnWord, .ref a0_turnFrom, .int v0_turns, .ref a0_pieceSign, .ref a0_pieceFrom, .int v0_pieces, .int v0_signs, .ref a0_runFrom, .ref a0_runLong, .ref a0_runPiece, .int v0_runs, .ref a0_alike, .ref a0_stood])), (a0_all, .inl (D.2 1, 5228, .inl g0_all)), (a0_alike, .inl (D.2 1, 128, .inl g0_alike))] sz)) 0 0 (va_A [(a0, .inr (9, [.ref a0_all, .ref a0_tape, .ref a0_isImage, .int v0_taped, .int v0_faultKind, .int v0_faultPlace, .int v0_undos, .ref a0_turnWord, .ref a0_turnFrom, .int v0_turns, .ref a0_pieceSign, .ref a0_pieceFrom, .int v0_pieces, .int v0_signs, .ref a0_runFrom, .ref a0_runLong, .ref a0_runPiece, .int v0_runs, .ref a0_alike, .ref a0_stood])), (a0_all, .inl (D.2 1, 5228, .inl g0_all)), (a0_alike, .inl (D.2 1, 128, .inl g0_alike))] sz) := by
  refine Met.ofW (cc := cX12_asks) (maxL := 3) (ret := (some .int)) (by decide) rfl ?_
  intro p e s m args below meth c s₁ B hml hv
  obtain ⟨rfl, hsz, hP, hK, hD0⟩ := hv
  have hx := B.exec
  have hb := B.bytes
  have hr := B.returns
  have hts := atoms_spec (ws := wsX12_asks) B.pre
  have hown : s.vm.findClass RX12 = some m.cls := findClass_of_methodNamed B.named
  have hlocks := B.notSynchronized
  subst hsz
  have hD := hD0.self (sz := s.heap.size)
  generalize hAe : va_A [(a0, .inr (9, [.ref a0_all, .ref a0_tape, .ref a0_isImage, .int v0_taped, .int v0_faultKind, .int v0_faultPlace, .int v0_undos, .ref a0_turnWord, .ref a0_turnFrom, .int v0_turns, .ref a0_pieceSign, .ref a0_pieceFrom, .int v0_pieces, .int v0_signs, .ref a0_runFrom, .ref a0_runLong, .ref a0_runPiece, .int v0_runs, .ref a0_alike, .ref a0_stood])), (a0_all, .inl (D.2 1, 5228, .inl g0_all)), (a0_alike, .inl (D.2 1, 128, .inl g0_alike))] s.heap.size = A at hD ⊢
  have hA : ∀ q : Nat, s.heap.size ≤ q → A q := fun q h => by rw [← hAe]; exact Or.inr h
  have hl := lv_entry ([.ref a0]) (n := 3) (Nat.le_of_ble_eq_true rfl)
  rw [lg_entry_eq]
  generalize (lg_sl ([.ref a0]) ++ List.replicate (3 - (lg_sl ([.ref a0])).length) Slot.unset).toArray = ls at hl ⊢
  have hl : lv_has ls 3 [(0, .ref a0)] := hl
  refine zStart (A := A) hP (fun Q0 H locs hQ hP hS => ?_)
  have k4 : ∀ K : Nat, ∀ (x1 : Int32) (x2 : Int32) (g0_alike : Nat → Int32) (H : Heap) (locs : List Loc) (ls : Array Slot), fX12_asks_4 N g0_all K x1 x2 g0_alike = some res → va_P D.1 vwCl [(a0, .inr (9, [.ref a0_all, .ref a0_tape, .ref a0_isImage, .int v0_taped, .int v0_faultKind, .int v0_faultPlace, .int v0_undos, .ref a0_turnWord, .ref a0_turnFrom, .int v0_turns, .ref a0_pieceSign, .ref a0_pieceFrom, .int v0_pieces, .int v0_signs, .ref a0_runFrom, .ref a0_runLong, .ref a0_runPiece, .int v0_runs, .ref a0_alike, .ref a0_stood])), (a0_all, .inl (D.2 1, 5228, .inl g0_all)), (a0_alike, .inl (D.2 1, 128, .inl g0_alike))] H → va_D A [(a0, .inr (9, [.ref a0_all, .ref a0_tape, .ref a0_isImage, .int v0_taped, .int v0_faultKind, .int v0_faultPlace, .int v0_undos, .ref a0_turnWord, .ref a0_turnFrom, .int v0_turns, .ref a0_pieceSign, .ref a0_pieceFrom, .int v0_pieces, .int v0_signs, .ref a0_runFrom, .ref a0_runLong, .ref a0_runPiece, .int v0_runs, .ref a0_alike, .ref a0_stood])), (a0_all, .inl (D.2 1, 5228, .inl g0_all)), (a0_alike, .inl (D.2 1, 128, .inl g0_alike))] → va_S A s.heap H locs → lv_has ls 3 [(0, .ref a0), (1, .int x1), (2, .int x2)] → W p l e (headSpec wsX12_asks ({ frames := 3, cells := 0, slots := 0, locals := 76 } : Room)).room s m ([.ref a0] : List Value).toArray below meth c H locs 0 0 Q0 (F0 m 4 ls []) := by
    intro K
    induction K with
    | zero =>
      intro x1 x2 g0_alike H locs ls hf
      rw [fX12_asks_4] at hf
      cases hf
    | succ K ih =>
      intro x1 x2 g0_alike H locs ls hf hP hD hS hl
      rw [fX12_asks_4] at hf
      refine lv_iload_n hx hb dX12_asks_4 rfl (lv_at hl 2 rfl) ?_
      refine lv_bipush (v := 7) hx hb dX12_asks_5 (by decide) ?_
      refine lv_icmp_ge (tgt := 35) hx hb dX12_asks_7 (by decide) (fun c_1 => ?_) (fun c_1 => ?_)
      · replace hf := ip c_1 hf
        refine lv_aload_n hx hb dX12_asks_35 rfl (lv_at hl 0 rfl) ?_
        refine lv_iconst (v := 0) hx hb dX12_asks_36 (by decide) ?_
        refine lv_sipush (v := 430) hx hb dX12_asks_37 (by decide) ?_
        obtain ⟨r2, hr2, hf⟩ := bd hf
        refine zVi (As := [.int (0 : Int32), .int (430 : Int32)]) (rest := []) (ci := 9) (q0 := 0) (wn := [(a0, .inr (9, [.ref a0_all, .ref a0_tape, .ref a0_isImage, .int v0_taped, .int v0_faultKind, .int v0_faultPlace, .int v0_undos, .ref a0_turnWord, .ref a0_turnFrom, .int v0_turns, .ref a0_pieceSign, .ref a0_pieceFrom, .int v0_pieces, .int v0_signs, .ref a0_runFrom, .ref a0_runLong, .ref a0_runPiece, .int v0_runs, .ref a0_alike, .ref a0_stood])), (a0_all, .inl (D.2 1, 5228, .inl g0_all)), (a0_alike, .inl (D.2 1, 128, .inl g0_alike))]) ⟨hx, hb, hml, hown, hts⟩ (mX12_answers l D a0 a0_all a0_tape a0_isImage a0_turnWord a0_turnFrom a0_pieceSign a0_pieceFrom a0_runFrom a0_runLong a0_runPiece a0_alike a0_stood H.size v0_taped v0_faultKind v0_faultPlace v0_undos v0_turns v0_pieces v0_signs v0_runs g0_all (0 : Int32) (430 : Int32) N r2 hr2) (cwV 2 hts gX12_asks_X12_answers rfl rfl rfl (by decide +kernel) ⟨Nat.le_of_ble_eq_true rfl, Nat.le_of_ble_eq_true rfl⟩) hK hP hD hS hA [0, 1] [2] [1, 2, 0] rfl (by decide) rfl (by decide) (by decide) rfl (by decide) rfl rfl rfl hl.1 rfl (Nat.le_of_ble_eq_true rfl) dX12_asks_40 ⟨Nat.zero_le _, Nat.zero_le _⟩ (fun H locs hP hD hS => ?_)
        refine lv_if_ne (tgt := 50) hx hb dX12_asks_43 (by decide) (fun c_3 => ?_) (fun c_3 => ?_)
        · replace hf := im c_3 hf
          refine lv_iload_n hx hb dX12_asks_50 rfl (lv_at hl 1 rfl) ?_
          have he := Option.some.inj hf
          rw [hQ]
          exact W.iret (v := x1) hx hb hr (fun t ht hW => by rw [← he]; exact ⟨⟨x1, (), rfl, rfl, by rw [ht]; exact hP, hD⟩, hS.F ht⟩) hS.2.2 dX12_asks_51
        · replace hf := ip c_3 hf
          refine lv_iconst (v := -1) hx hb dX12_asks_46 (by decide) ?_
          refine lv_goto (tgt := 51) hx hb dX12_asks_47 (by decide) ?_
          have he := Option.some.inj hf
          rw [hQ]
          exact W.iret (v := (-1 : Int32)) hx hb hr (fun t ht hW => by rw [← he]; exact ⟨⟨(-1 : Int32), (), rfl, rfl, by rw [ht]; exact hP, hD⟩, hS.F ht⟩) hS.2.2 dX12_asks_51
      · replace hf := im c_1 hf
        refine lv_aload_n hx hb dX12_asks_10 rfl (lv_at hl 0 rfl) ?_
        refine lv_iload_n hx hb dX12_asks_11 rfl (lv_at hl 2 rfl) ?_
        obtain ⟨r4, hr4, hf⟩ := bd hf
        refine zVi (As := [.int x2]) (rest := []) (ci := 9) (q0 := 0) (wn := [(a0, .inr (9, [.ref a0_all, .ref a0_tape, .ref a0_isImage, .int v0_taped, .int v0_faultKind, .int v0_faultPlace, .int v0_undos, .ref a0_turnWord, .ref a0_turnFrom, .int v0_turns, .ref a0_pieceSign, .ref a0_pieceFrom, .int v0_pieces, .int v0_signs, .ref a0_runFrom, .ref a0_runLong, .ref a0_runPiece, .int v0_runs, .ref a0_alike, .ref a0_stood])), (a0_all, .inl (D.2 1, 5228, .inl g0_all)), (a0_alike, .inl (D.2 1, 128, .inl r4.2))]) ⟨hx, hb, hml, hown, hts⟩ (mX12_mostAlike l D a0 a0_all a0_tape a0_isImage a0_turnWord a0_turnFrom a0_pieceSign a0_pieceFrom a0_runFrom a0_runLong a0_runPiece a0_alike a0_stood H.size v0_taped v0_faultKind v0_faultPlace v0_undos v0_turns v0_pieces v0_signs v0_runs g0_all g0_alike x2 N r4 hr4) (cwV 1 hts gX12_asks_X12_mostAlike rfl rfl rfl (by decide +kernel) ⟨Nat.le_of_ble_eq_true rfl, Nat.le_of_ble_eq_true rfl⟩) hK hP hD hS hA [0, 1, 2] [] [0, 1, 2] rfl (by decide) rfl (by decide) (by decide) rfl (by decide) rfl rfl rfl hl.1 rfl (Nat.le_of_ble_eq_true rfl) dX12_asks_12 ⟨Nat.zero_le _, Nat.zero_le _⟩ (fun H locs hP hD hS => ?_)
        refine lv_aload_n hx hb dX12_asks_15 rfl (lv_at hl 0 rfl) ?_
        refine lv_iload_n hx hb dX12_asks_16 rfl (lv_at hl 1 rfl) ?_
        obtain ⟨r5, hr5, hf⟩ := bd hf
        refine zVi (As := [.int x1]) (rest := [.int r4.1]) (ci := 9) (q0 := 0) (wn := [(a0, .inr (9, [.ref a0_all, .ref a0_tape, .ref a0_isImage, .int v0_taped, .int v0_faultKind, .int v0_faultPlace, .int v0_undos, .ref a0_turnWord, .ref a0_turnFrom, .int v0_turns, .ref a0_pieceSign, .ref a0_pieceFrom, .int v0_pieces, .int v0_signs, .ref a0_runFrom, .ref a0_runLong, .ref a0_runPiece, .int v0_runs, .ref a0_alike, .ref a0_stood])), (a0_all, .inl (D.2 1, 5228, .inl g0_all)), (a0_alike, .inl (D.2 1, 128, .inl r5.2))]) ⟨hx, hb, hml, hown, hts⟩ (mX12_mostAlike l D a0 a0_all a0_tape a0_isImage a0_turnWord a0_turnFrom a0_pieceSign a0_pieceFrom a0_runFrom a0_runLong a0_runPiece a0_alike a0_stood H.size v0_taped v0_faultKind v0_faultPlace v0_undos v0_turns v0_pieces v0_signs v0_runs g0_all r4.2 x1 N r5 hr5) (cwV 1 hts gX12_asks_X12_mostAlike rfl rfl rfl (by decide +kernel) ⟨Nat.le_of_ble_eq_true rfl, Nat.le_of_ble_eq_true rfl⟩) hK hP hD hS hA [0, 1, 2] [] [0, 1, 2] rfl (by decide) rfl (by decide) (by decide) rfl (by decide) rfl rfl rfl hl.1 rfl (Nat.le_of_ble_eq_true rfl) dX12_asks_17 ⟨Nat.zero_le _, Nat.zero_le _⟩ (fun H locs hP hD hS => ?_)
        refine lv_icmp_ge (tgt := 27) hx hb dX12_asks_20 (by decide) (fun c_6 => ?_) (fun c_6 => ?_)
        · replace hf := ip c_6 hf
          refine lv_iload_n hx hb dX12_asks_27 rfl (lv_at hl 1 rfl) ?_
          refine lv_istore_n (lv' := [(1, .int x1), (0, .ref a0), (2, .int x2)]) hx hb dX12_asks_28 rfl hl (by decide) rfl (fun ls hl => ?_)
          refine lv_iinc (v := (x2 + (1 : Int32))) (lv' := [(2, .int (x2 + (1 : Int32))), (1, .int x1), (0, .ref a0)]) hx hb dX12_asks_29 hl (k := 2) rfl rfl (by decide) rfl (fun ls hl => ?_)
          refine lv_goto (tgt := 4) hx hb dX12_asks_32 (by decide) ?_
          exact ih x1 (x2 + (1 : Int32)) r5.2 H locs ls hf hP hD hS (lv_sub hl [2, 1, 0] rfl)
        · replace hf := im c_6 hf
          refine lv_iload_n hx hb dX12_asks_23 rfl (lv_at hl 2 rfl) ?_
          refine lv_goto (tgt := 28) hx hb dX12_asks_24 (by decide) ?_
          refine lv_istore_n (lv' := [(1, .int x2), (0, .ref a0), (2, .int x2)]) hx hb dX12_asks_28 rfl hl (by decide) rfl (fun ls hl => ?_)
          refine lv_iinc (v := (x2 + (1 : Int32))) (lv' := [(2, .int (x2 + (1 : Int32))), (1, .int x2), (0, .ref a0)]) hx hb dX12_asks_29 hl (k := 2) rfl rfl (by decide) rfl (fun ls hl => ?_)
          refine lv_goto (tgt := 4) hx hb dX12_asks_32 (by decide) ?_
          exact ih x2 (x2 + (1 : Int32)) r5.2 H locs ls hf hP hD hS (lv_sub hl [2, 1, 0] rfl)
  unfold fX12_asks at hf
  refine lv_iconst (v := 0) hx hb dX12_asks_0 (by decide) ?_
  refine lv_istore_n (lv' := [(1, .int (0 : Int32)), (0, .ref a0)]) hx hb dX12_asks_1 rfl hl (by decide) rfl (fun ls hl => ?_)
  refine lv_iconst (v := 1) hx hb dX12_asks_2 (by decide) ?_
  refine lv_istore_n (lv' := [(2, .int (1 : Int32)), (1, .int (0 : Int32)), (0, .ref a0)]) hx hb dX12_asks_3 rfl hl (by decide) rfl (fun ls hl => ?_)
  exact k4 N (0 : Int32) (1 : Int32) g0_alike H locs ls hf hP hD hS (lv_sub hl [2, 1, 0] rfl)
def fX12_letters_4 (N : Nat) (g0_all : Nat → Int32) : Nat → Int32 → Int32 → Option (Int32)
  | 0, _, _ => none
  | K + 1, x1, x2 =>
    if (0 : Int32) < 0 ∨ 5228 ≤ ((0 : Int32)).toNatClampNeg then none else
    if (g0_all ((0 : Int32)).toNatClampNeg) ≤ x2 then
      some (x1)
    else
      Option.bind (fX12_wordAt (0 : Int32) x2) fun r3 =>
      if r3 < 0 ∨ 5228 ≤ (r3).toNatClampNeg then none else
      (fX12_letters_4 N g0_all K) (x1 + (g0_all (r3).toNatClampNeg)) (x2 + (1 : Int32))
def fX12_letters (N : Nat) (g0_all : Nat → Int32) : Option (Int32) :=
  fX12_letters_4 N g0_all N (0 : Int32) (0 : Int32)
set_option maxHeartbeats 4000000 in
set_option maxRecDepth 100000 in
theorem mX12_letters (l : Launch) (D : zG) (a0 : Nat) (a0_all : Nat) (a0_tape : Nat) (a0_isImage : Nat) (a0_turnWord : Nat) (a0_turnFrom : Nat) (a0_pieceSign : Nat) (a0_pieceFrom : Nat) (a0_runFrom : Nat) (a0_runLong : Nat) (a0_runPiece : Nat) (a0_alike : Nat) (a0_stood : Nat) (sz : Nat)  (v0_taped : Int32) (v0_faultKind : Int32) (v0_faultPlace : Int32) (v0_undos : Int32) (v0_turns : Int32) (v0_pieces : Int32) (v0_signs : Int32) (v0_runs : Int32) (g0_all : Nat → Int32)  (N : Nat) (res : Int32) (hf : fX12_letters N g0_all = some res) : Met l yX12_letters wsX12_letters ({ frames := 1, cells := 0, slots := 0, locals := 21 } : Room) (va_Pc [.ref a0] (zW D sz [(a0, .inr (9, [.ref a0_all, .ref a0_tape, .ref a0_isImage, .int v0_taped, .int v0_faultKind, .int v0_faultPlace, .int v0_undos, .ref a0_turnWord, .ref a0_turnFrom, .int v0_turns, .ref a0_pieceSign, .ref a0_pieceFrom, .int v0_pieces, .int v0_signs, .ref a0_runFrom, .ref a0_runLong, .ref a0_runPiece, .int v0_runs, .ref a0_alike, .ref a0_stood])), (a0_all, .inl (D.2 1, 5228, .inl g0_all))])) (va_Qi (fun r (_ : Unit) => r = res) (fun _ => zB D (va_A [(a0, .inr (9, [.ref a0_all, .ref a0_tape, .ref a0_isImage, .int v0_taped, .int v0_faultKind, .int v0_faultPlace, .int v0_undos, .ref a0_turnWord, .ref a0_turnFrom, .int v0_turns, .ref a0_pieceSign, .ref a0_pieceFrom, .int v0_pieces, .int v0_signs, .ref a0_runFrom, .ref a0_runLong, .ref a0_runPiece, .int v0_runs, .ref a0_alike, .ref a0_stood])), (a0_all, .inl (D.2 1, 5228, .inl g0_all))] sz) [(a0, .inr (9, [.ref a0_all, .ref a0_tape, .ref a0_isImage, .int v0_taped, .int v0_faultKind, .int v0_faultPlace, .int v0_undos, .ref a0_turnWord, .ref a0_turnFrom, .int v0_turns, .ref a0_pieceSign, .ref a0_pieceFrom, .int v0_pieces, .int v0_signs, .ref a0_runFrom, .ref a0_runLong, .ref a0_runPiece, .int v0_runs, .ref a0_alike, .ref a0_stood])), (a0_all, .inl (D.2 1, 5228, .inl g0_all))]) (va_A [(a0, .inr (9, [.ref a0_all, .ref a0_tape, .ref a0_isImage, .int v0_taped, .int v0_faultKind, .int v0_faultPlace, .int v0_undos, .ref a0_turnWord, .ref a0_turnFrom, .int v0_turns, .ref a0_pieceSign, .ref a0_pieceFrom, .int v0_pieces, .int v0_signs, .ref a0_runFrom, .ref a0_runLong, .ref a0_runPiece, .int v0_runs, .ref a0_alike, .ref a0_stood])), (a0_all, .inl (D.2 1, 5228, .inl g0_all))] sz)) 0 0 (va_A [(a0, .inr (9, [.ref a0_all, .ref a0_tape, .ref a0_isImage, .int v0_taped, .int v0_faultKind, .int v0_faultPlace, .int v0_undos, .ref a0_turnWord, .ref a0_turnFrom, .int v0_turns, .ref a0_pieceSign, .ref a0_pieceFrom, .int v0_pieces, .int v0_signs, .ref a0_runFrom, .ref a0_runLong, .ref a0_runPiece, .int v0_runs, .ref a0_alike, .ref a0_stood])), (a0_all, .inl (D.2 1, 5228, .inl g0_all))] sz) := by
  refine Met.ofW (cc := cX12_letters) (maxL := 3) (ret := (some .int)) (by decide) rfl ?_
  intro p e s m args below meth c s₁ B hml hv
  obtain ⟨rfl, hsz, hP, hK, hD0⟩ := hv
  have hx := B.exec
  have hb := B.bytes
  have hr := B.returns
  have hts := atoms_spec (ws := wsX12_letters) B.pre
  have hown : s.vm.findClass RX12 = some m.cls := findClass_of_methodNamed B.named
  have hlocks := B.notSynchronized
  subst hsz
  have hD := hD0.self (sz := s.heap.size)
  generalize hAe : va_A [(a0, .inr (9, [.ref a0_all, .ref a0_tape, .ref a0_isImage, .int v0_taped, .int v0_faultKind, .int v0_faultPlace, .int v0_undos, .ref a0_turnWord, .ref a0_turnFrom, .int v0_turns, .ref a0_pieceSign, .ref a0_pieceFrom, .int v0_pieces, .int v0_signs, .ref a0_runFrom, .ref a0_runLong, .ref a0_runPiece, .int v0_runs, .ref a0_alike, .ref a0_stood])), (a0_all, .inl (D.2 1, 5228, .inl g0_all))] s.heap.size = A at hD ⊢
  have hA : ∀ q : Nat, s.heap.size ≤ q → A q := fun q h => by rw [← hAe]; exact Or.inr h
  have l7 := zat hts 1 (w := .fieldLink RX12 7 "TurnedWordsModel" "all" "[I") rfl
  have hwX12 : ∀ w ∈ u_ws RX12 TX12 20, w ∈ wsX12_letters := fun w h => List.mem_cons_of_mem _ (List.mem_append_right _ h)
  have hl := lv_entry ([.ref a0]) (n := 3) (Nat.le_of_ble_eq_true rfl)
  rw [lg_entry_eq]
  generalize (lg_sl ([.ref a0]) ++ List.replicate (3 - (lg_sl ([.ref a0])).length) Slot.unset).toArray = ls at hl ⊢
  have hl : lv_has ls 3 [(0, .ref a0)] := hl
  refine zStart (A := A) hP (fun Q0 H locs hQ hP hS => ?_)
  have k4 : ∀ K : Nat, ∀ (x1 : Int32) (x2 : Int32) (H : Heap) (locs : List Loc) (ls : Array Slot), fX12_letters_4 N g0_all K x1 x2 = some res → va_P D.1 vwCl [(a0, .inr (9, [.ref a0_all, .ref a0_tape, .ref a0_isImage, .int v0_taped, .int v0_faultKind, .int v0_faultPlace, .int v0_undos, .ref a0_turnWord, .ref a0_turnFrom, .int v0_turns, .ref a0_pieceSign, .ref a0_pieceFrom, .int v0_pieces, .int v0_signs, .ref a0_runFrom, .ref a0_runLong, .ref a0_runPiece, .int v0_runs, .ref a0_alike, .ref a0_stood])), (a0_all, .inl (D.2 1, 5228, .inl g0_all))] H → va_D A [(a0, .inr (9, [.ref a0_all, .ref a0_tape, .ref a0_isImage, .int v0_taped, .int v0_faultKind, .int v0_faultPlace, .int v0_undos, .ref a0_turnWord, .ref a0_turnFrom, .int v0_turns, .ref a0_pieceSign, .ref a0_pieceFrom, .int v0_pieces, .int v0_signs, .ref a0_runFrom, .ref a0_runLong, .ref a0_runPiece, .int v0_runs, .ref a0_alike, .ref a0_stood])), (a0_all, .inl (D.2 1, 5228, .inl g0_all))] → va_S A s.heap H locs → lv_has ls 3 [(0, .ref a0), (1, .int x1), (2, .int x2)] → W p l e (headSpec wsX12_letters ({ frames := 1, cells := 0, slots := 0, locals := 21 } : Room)).room s m ([.ref a0] : List Value).toArray below meth c H locs 0 0 Q0 (F0 m 4 ls []) := by
    intro K
    induction K with
    | zero =>
      intro x1 x2 H locs ls hf
      rw [fX12_letters_4] at hf
      cases hf
    | succ K ih =>
      intro x1 x2 H locs ls hf hP hD hS hl
      rw [fX12_letters_4] at hf
      refine lv_iload_n hx hb dX12_letters_4 rfl (lv_at hl 2 rfl) ?_
      refine lv_aload_n hx hb dX12_letters_5 rfl (lv_at hl 0 rfl) ?_
      refine va_get (D := D.1) (ci := 9) (v := .ref a0_all) (C := RX12) (T := TX12) (N := 20) hx hb hts hwX12 hown hK.1 hP 0 rfl rfl 0 (by decide) l7 (fun _ h9 => h9) rfl dX12_letters_6 ?_
      refine lv_iconst (v := 0) hx hb dX12_letters_9 (by decide) ?_
      obtain ⟨h_1, hf⟩ := gd hf
      refine va_iald hx hb hK.1 hP 1 1 rfl rfl h_1 dX12_letters_10 ?_
      refine lv_icmp_ge (tgt := 33) hx hb dX12_letters_11 (by decide) (fun c_2 => ?_) (fun c_2 => ?_)
      · replace hf := ip c_2 hf
        refine lv_iload_n hx hb dX12_letters_33 rfl (lv_at hl 1 rfl) ?_
        have he := Option.some.inj hf
        rw [hQ]
        exact W.iret (v := x1) hx hb hr (fun t ht hW => by rw [← he]; exact ⟨⟨x1, (), rfl, rfl, by rw [ht]; exact hP, hD⟩, hS.F ht⟩) hS.2.2 dX12_letters_34
      · replace hf := im c_2 hf
        refine lv_iload_n hx hb dX12_letters_14 rfl (lv_at hl 1 rfl) ?_
        refine lv_aload_n hx hb dX12_letters_15 rfl (lv_at hl 0 rfl) ?_
        refine va_get (D := D.1) (ci := 9) (v := .ref a0_all) (C := RX12) (T := TX12) (N := 20) hx hb hts hwX12 hown hK.1 hP 0 rfl rfl 0 (by decide) l7 (fun _ h9 => h9) rfl dX12_letters_16 ?_
        refine lv_iconst (v := 0) hx hb dX12_letters_19 (by decide) ?_
        refine lv_iload_n hx hb dX12_letters_20 rfl (lv_at hl 2 rfl) ?_
        obtain ⟨r3, hr3, hf⟩ := bd hf
        refine zSi (As := [.int (0 : Int32), .int x2]) (rest := [.ref a0_all, .int x1]) (wn := [(a0, .inr (9, [.ref a0_all, .ref a0_tape, .ref a0_isImage, .int v0_taped, .int v0_faultKind, .int v0_faultPlace, .int v0_undos, .ref a0_turnWord, .ref a0_turnFrom, .int v0_turns, .ref a0_pieceSign, .ref a0_pieceFrom, .int v0_pieces, .int v0_signs, .ref a0_runFrom, .ref a0_runLong, .ref a0_runPiece, .int v0_runs, .ref a0_alike, .ref a0_stood])), (a0_all, .inl (D.2 1, 5228, .inl g0_all))]) ⟨hx, hb, hml, hown, hts⟩ (mX12_wordAt l D H.size (0 : Int32) x2 r3 hr3) (va_cwS 2 hts gX12_letters_X12_wordAt rfl rfl rfl (by decide +kernel) ⟨Nat.le_of_ble_eq_true rfl, Nat.le_of_ble_eq_true rfl⟩) hK hP hD hS hA [] [0, 1] [0, 1] rfl (by decide) rfl (by decide) (by decide) rfl (by decide) rfl hl.1 rfl (Nat.le_of_ble_eq_true rfl) dX12_letters_21 ⟨Nat.zero_le _, Nat.zero_le _⟩ (fun H locs hP hD hS => ?_)
        obtain ⟨h_4, hf⟩ := gd hf
        refine va_iald hx hb hK.1 hP 1 1 rfl rfl h_4 dX12_letters_24 ?_
        refine lv_iadd hx hb dX12_letters_25 ?_
        refine lv_istore_n (lv' := [(1, .int (x1 + (g0_all (r3).toNatClampNeg))), (0, .ref a0), (2, .int x2)]) hx hb dX12_letters_26 rfl hl (by decide) rfl (fun ls hl => ?_)
        refine lv_iinc (v := (x2 + (1 : Int32))) (lv' := [(2, .int (x2 + (1 : Int32))), (1, .int (x1 + (g0_all (r3).toNatClampNeg))), (0, .ref a0)]) hx hb dX12_letters_27 hl (k := 2) rfl rfl (by decide) rfl (fun ls hl => ?_)
        refine lv_goto (tgt := 4) hx hb dX12_letters_30 (by decide) ?_
        exact ih (x1 + (g0_all (r3).toNatClampNeg)) (x2 + (1 : Int32)) H locs ls hf hP hD hS (lv_sub hl [2, 1, 0] rfl)
  unfold fX12_letters at hf
  refine lv_iconst (v := 0) hx hb dX12_letters_0 (by decide) ?_
  refine lv_istore_n (lv' := [(1, .int (0 : Int32)), (0, .ref a0)]) hx hb dX12_letters_1 rfl hl (by decide) rfl (fun ls hl => ?_)
  refine lv_iconst (v := 0) hx hb dX12_letters_2 (by decide) ?_
  refine lv_istore_n (lv' := [(2, .int (0 : Int32)), (1, .int (0 : Int32)), (0, .ref a0)]) hx hb dX12_letters_3 rfl hl (by decide) rfl (fun ls hl => ?_)
  exact k4 N (0 : Int32) (0 : Int32) H locs ls hf hP hD hS (lv_sub hl [2, 1, 0] rfl)
