def fX12_firstAlone_19 (N : Nat) (g0_all : Nat → Int32) (rec4 : Int32 → Int32 → Option (Int32)) : Nat → Int32 → Int32 → Int32 → Int32 → Option (Int32)
  | 0, _, _, _, _ => none
  | K + 1, x1, x2, x3, x4 =>
    if (0 : Int32) < 0 ∨ 5228 ≤ ((0 : Int32)).toNatClampNeg then none else
    if (g0_all ((0 : Int32)).toNatClampNeg) ≤ x4 then
      if x3 = (0 : Int32) then
        rec4 (x1 + (0 : Int32)) (x2 + (1 : Int32))
      else
        rec4 (x1 + (1 : Int32)) (x2 + (1 : Int32))
    else
      if x3 = (0 : Int32) then
        (fX12_firstAlone_19 N g0_all rec4 K) x1 x2 (0 : Int32) (x4 + (1 : Int32))
      else
        if x4 = x2 then
          (fX12_firstAlone_19 N g0_all rec4 K) x1 x2 (1 : Int32) (x4 + (1 : Int32))
        else
          Option.bind (fX12_wordAt (0 : Int32) x4) fun r8 =>
          if (r8 + (1 : Int32)) < 0 ∨ 5228 ≤ ((r8 + (1 : Int32))).toNatClampNeg then none else
          Option.bind (fX12_wordAt (0 : Int32) x2) fun r10 =>
          if (r10 + (1 : Int32)) < 0 ∨ 5228 ≤ ((r10 + (1 : Int32))).toNatClampNeg then none else
          if (g0_all ((r8 + (1 : Int32))).toNatClampNeg) = (g0_all ((r10 + (1 : Int32))).toNatClampNeg) then
            (fX12_firstAlone_19 N g0_all rec4 K) x1 x2 (0 : Int32) (x4 + (1 : Int32))
          else
            (fX12_firstAlone_19 N g0_all rec4 K) x1 x2 (1 : Int32) (x4 + (1 : Int32))
def fX12_firstAlone_4 (N : Nat) (g0_all : Nat → Int32) : Nat → Int32 → Int32 → Option (Int32)
  | 0, _, _ => none
  | K + 1, x1, x2 =>
    if (0 : Int32) < 0 ∨ 5228 ≤ ((0 : Int32)).toNatClampNeg then none else
    if (g0_all ((0 : Int32)).toNatClampNeg) ≤ x2 then
      some (x1)
    else
      fX12_firstAlone_19 N g0_all (fX12_firstAlone_4 N g0_all K) N x1 x2 (1 : Int32) (0 : Int32)
def fX12_firstAlone (N : Nat) (g0_all : Nat → Int32) : Option (Int32) :=
  fX12_firstAlone_4 N g0_all N (0 : Int32) (0 : Int32)
set_option maxHeartbeats 4000000 in
set_option maxRecDepth 100000 in
theorem mX12_firstAlone (l : Launch) (D : zG) (a0 : Nat) (a0_all : Nat) (a0_tape : Nat) (a0_isImage : Nat) (a0_turnWord : Nat) (a0_turnFrom : Nat) (a0_pieceSign : Nat) (a0_pieceFrom : Nat) (a0_runFrom : Nat) (a0_runLong : Nat) (a0_runPiece : Nat) (a0_alike : Nat) (a0_stood : Nat) (sz : Nat)  (v0_taped : Int32) (v0_faultKind : Int32) (v0_faultPlace : Int32) (v0_undos : Int32) (v0_turns : Int32) (v0_pieces : Int32) (v0_signs : Int32) (v0_runs : Int32) (g0_all : Nat → Int32)  (N : Nat) (res : Int32) (hf : fX12_firstAlone N g0_all = some res) : Met l yX12_firstAlone wsX12_firstAlone ({ frames := 1, cells := 0, slots := 0, locals := 21 } : Room) (va_Pc [.ref a0] (zW D sz [(a0, .inr (9, [.ref a0_all, .ref a0_tape, .ref a0_isImage, .int v0_taped, .int v0_faultKind, .int v0_faultPlace, .int v0_undos, .ref a0_turnWord, .ref a0_turnFrom, .int v0_turns, .ref a0_pieceSign, .ref a0_pieceFrom, .int v0_pieces, .int v0_signs, .ref a0_runFrom, .ref a0_runLong, .ref a0_runPiece, .int v0_runs, .ref a0_alike, .ref a0_stood])), (a0_all, .inl (D.2 1, 5228, .inl g0_all))])) (va_Qi (fun r (_ : Unit) => r = res) (fun _ => zB D (va_A [(a0, .inr (9, [.ref a0_all, .ref a0_tape, .ref a0_isImage, .int v0_taped, .int v0_faultKind, .int v0_faultPlace, .int v0_undos, .ref a0_turnWord, .ref a0_turnFrom, .int v0_turns, .ref a0_pieceSign, .ref a0_pieceFrom, .int v0_pieces, .int v0_signs, .ref a0_runFrom, .ref a0_runLong, .ref a0_runPiece, .int v0_runs, .ref a0_alike, .ref a0_stood])), (a0_all, .inl (D.2 1, 5228, .inl g0_all))] sz) [(a0, .inr (9, [.ref a0_all, .ref a0_tape, .ref a0_isImage, .int v0_taped, .int v0_faultKind, .int v0_faultPlace, .int v0_undos, .ref a0_turnWord, .ref a0_turnFrom, .int v0_turns, .ref a0_pieceSign, .ref a0_pieceFrom, .int v0_pieces, .int v0_signs, .ref a0_runFrom, .ref a0_runLong, .ref a0_runPiece, .int v0_runs, .ref a0_alike, .ref a0_stood])), (a0_all, .inl (D.2 1, 5228, .inl g0_all))]) (va_A [(a0, .inr (9, [.ref a0_all, .ref a0_tape, .ref a0_isImage, .int v0_taped, .int v0_faultKind, .int v0_faultPlace, .int v0_undos, .ref a0_turnWord, .ref a0_turnFrom, .int v0_turns, .ref a0_pieceSign, .ref a0_pieceFrom, .int v0_pieces, .int v0_signs, .ref a0_runFrom, .ref a0_runLong, .ref a0_runPiece, .int v0_runs, .ref a0_alike, .ref a0_stood])), (a0_all, .inl (D.2 1, 5228, .inl g0_all))] sz)) 0 0 (va_A [(a0, .inr (9, [.ref a0_all, .ref a0_tape, .ref a0_isImage, .int v0_taped, .int v0_faultKind, .int v0_faultPlace, .int v0_undos, .ref a0_turnWord, .ref a0_turnFrom, .int v0_turns, .ref a0_pieceSign, .ref a0_pieceFrom, .int v0_pieces, .int v0_signs, .ref a0_runFrom, .ref a0_runLong, .ref a0_runPiece, .int v0_runs, .ref a0_alike, .ref a0_stood])), (a0_all, .inl (D.2 1, 5228, .inl g0_all))] sz) := by
  refine Met.ofW (cc := cX12_firstAlone) (maxL := 5) (ret := (some .int)) (by decide) rfl ?_
  intro p e s m args below meth c s₁ B hml hv
  obtain ⟨rfl, hsz, hP, hK, hD0⟩ := hv
  have hx := B.exec
  have hb := B.bytes
  have hr := B.returns
  have hts := atoms_spec (ws := wsX12_firstAlone) B.pre
  have hown : s.vm.findClass RX12 = some m.cls := findClass_of_methodNamed B.named
  have hlocks := B.notSynchronized
  subst hsz
  have hD := hD0.self (sz := s.heap.size)
  generalize hAe : va_A [(a0, .inr (9, [.ref a0_all, .ref a0_tape, .ref a0_isImage, .int v0_taped, .int v0_faultKind, .int v0_faultPlace, .int v0_undos, .ref a0_turnWord, .ref a0_turnFrom, .int v0_turns, .ref a0_pieceSign, .ref a0_pieceFrom, .int v0_pieces, .int v0_signs, .ref a0_runFrom, .ref a0_runLong, .ref a0_runPiece, .int v0_runs, .ref a0_alike, .ref a0_stood])), (a0_all, .inl (D.2 1, 5228, .inl g0_all))] s.heap.size = A at hD ⊢
  have hA : ∀ q : Nat, s.heap.size ≤ q → A q := fun q h => by rw [← hAe]; exact Or.inr h
  have l7 := zat hts 1 (w := .fieldLink RX12 7 "TurnedWordsModel" "all" "[I") rfl
  have hwX12 : ∀ w ∈ u_ws RX12 TX12 20, w ∈ wsX12_firstAlone := fun w h => List.mem_cons_of_mem _ (List.mem_append_right _ h)
  have hl := lv_entry ([.ref a0]) (n := 5) (Nat.le_of_ble_eq_true rfl)
  rw [lg_entry_eq]
  generalize (lg_sl ([.ref a0]) ++ List.replicate (5 - (lg_sl ([.ref a0])).length) Slot.unset).toArray = ls at hl ⊢
  have hl : lv_has ls 5 [(0, .ref a0)] := hl
  refine zStart (A := A) hP (fun Q0 H locs hQ hP hS => ?_)
  have k19 : ∀ (rec4 : Int32 → Int32 → Option (Int32)), (∀ (x1 : Int32) (x2 : Int32) (H : Heap) (locs : List Loc) (ls : Array Slot), rec4 x1 x2 = some res → va_P D.1 vwCl [(a0, .inr (9, [.ref a0_all, .ref a0_tape, .ref a0_isImage, .int v0_taped, .int v0_faultKind, .int v0_faultPlace, .int v0_undos, .ref a0_turnWord, .ref a0_turnFrom, .int v0_turns, .ref a0_pieceSign, .ref a0_pieceFrom, .int v0_pieces, .int v0_signs, .ref a0_runFrom, .ref a0_runLong, .ref a0_runPiece, .int v0_runs, .ref a0_alike, .ref a0_stood])), (a0_all, .inl (D.2 1, 5228, .inl g0_all))] H → va_D A [(a0, .inr (9, [.ref a0_all, .ref a0_tape, .ref a0_isImage, .int v0_taped, .int v0_faultKind, .int v0_faultPlace, .int v0_undos, .ref a0_turnWord, .ref a0_turnFrom, .int v0_turns, .ref a0_pieceSign, .ref a0_pieceFrom, .int v0_pieces, .int v0_signs, .ref a0_runFrom, .ref a0_runLong, .ref a0_runPiece, .int v0_runs, .ref a0_alike, .ref a0_stood])), (a0_all, .inl (D.2 1, 5228, .inl g0_all))] → va_S A s.heap H locs → lv_has ls 5 [(0, .ref a0), (1, .int x1), (2, .int x2)] → W p l e (headSpec wsX12_firstAlone ({ frames := 1, cells := 0, slots := 0, locals := 21 } : Room)).room s m ([.ref a0] : List Value).toArray below meth c H locs 0 0 Q0 (F0 m 4 ls [])) → ∀ K : Nat, ∀ (x1 : Int32) (x2 : Int32) (x3 : Int32) (x4 : Int32) (H : Heap) (locs : List Loc) (ls : Array Slot), fX12_firstAlone_19 N g0_all rec4 K x1 x2 x3 x4 = some res → va_P D.1 vwCl [(a0, .inr (9, [.ref a0_all, .ref a0_tape, .ref a0_isImage, .int v0_taped, .int v0_faultKind, .int v0_faultPlace, .int v0_undos, .ref a0_turnWord, .ref a0_turnFrom, .int v0_turns, .ref a0_pieceSign, .ref a0_pieceFrom, .int v0_pieces, .int v0_signs, .ref a0_runFrom, .ref a0_runLong, .ref a0_runPiece, .int v0_runs, .ref a0_alike, .ref a0_stood])), (a0_all, .inl (D.2 1, 5228, .inl g0_all))] H → va_D A [(a0, .inr (9, [.ref a0_all, .ref a0_tape, .ref a0_isImage, .int v0_taped, .int v0_faultKind, .int v0_faultPlace, .int v0_undos, .ref a0_turnWord, .ref a0_turnFrom, .int v0_turns, .ref a0_pieceSign, .ref a0_pieceFrom, .int v0_pieces, .int v0_signs, .ref a0_runFrom, .ref a0_runLong, .ref a0_runPiece, .int v0_runs, .ref a0_alike, .ref a0_stood])), (a0_all, .inl (D.2 1, 5228, .inl g0_all))] → va_S A s.heap H locs → lv_has ls 5 [(0, .ref a0), (1, .int x1), (2, .int x2), (3, .int x3), (4, .int x4)] → W p l e (headSpec wsX12_firstAlone ({ frames := 1, cells := 0, slots := 0, locals := 21 } : Room)).room s m ([.ref a0] : List Value).toArray below meth c H locs 0 0 Q0 (F0 m 19 ls []) := by
    intro rec4 hrec4 K
    induction K with
    | zero =>
      intro x1 x2 x3 x4 H locs ls hf
      rw [fX12_firstAlone_19] at hf
      cases hf
    | succ K ih =>
      intro x1 x2 x3 x4 H locs ls hf hP hD hS hl
      rw [fX12_firstAlone_19] at hf
      refine lv_iload hx hb dX12_firstAlone_19 (lv_at hl 4 rfl) ?_
      refine lv_aload_n hx hb dX12_firstAlone_21 rfl (lv_at hl 0 rfl) ?_
      refine va_get (D := D.1) (ci := 9) (v := .ref a0_all) (C := RX12) (T := TX12) (N := 20) hx hb hts hwX12 hown hK.1 hP 0 rfl rfl 0 (by decide) l7 (fun _ h9 => h9) rfl dX12_firstAlone_22 ?_
      refine lv_iconst (v := 0) hx hb dX12_firstAlone_25 (by decide) ?_
      obtain ⟨h_3, hf⟩ := gd hf
      refine va_iald hx hb hK.1 hP 1 1 rfl rfl h_3 dX12_firstAlone_26 ?_
      refine lv_icmp_ge (tgt := 80) hx hb dX12_firstAlone_27 (by decide) (fun c_4 => ?_) (fun c_4 => ?_)
      · replace hf := ip c_4 hf
        refine lv_iload_n hx hb dX12_firstAlone_80 rfl (lv_at hl 1 rfl) ?_
        refine lv_iload_n hx hb dX12_firstAlone_81 rfl (lv_at hl 3 rfl) ?_
        refine lv_if_eq (tgt := 89) hx hb dX12_firstAlone_82 (by decide) (fun c_5 => ?_) (fun c_5 => ?_)
        · replace hf := ip c_5 hf
          refine lv_iconst (v := 0) hx hb dX12_firstAlone_89 (by decide) ?_
          refine lv_iadd hx hb dX12_firstAlone_90 ?_
          refine lv_istore_n (lv' := [(1, .int (x1 + (0 : Int32))), (0, .ref a0), (2, .int x2), (3, .int x3), (4, .int x4)]) hx hb dX12_firstAlone_91 rfl hl (by decide) rfl (fun ls hl => ?_)
          refine lv_iinc (v := (x2 + (1 : Int32))) (lv' := [(2, .int (x2 + (1 : Int32))), (1, .int (x1 + (0 : Int32))), (0, .ref a0), (3, .int x3), (4, .int x4)]) hx hb dX12_firstAlone_92 hl (k := 2) rfl rfl (by decide) rfl (fun ls hl => ?_)
          refine lv_goto (tgt := 4) hx hb dX12_firstAlone_95 (by decide) ?_
          exact hrec4 (x1 + (0 : Int32)) (x2 + (1 : Int32)) H locs ls hf hP hD hS (lv_sub hl [2, 1, 0] rfl)
        · replace hf := im c_5 hf
          refine lv_iconst (v := 1) hx hb dX12_firstAlone_85 (by decide) ?_
          refine lv_goto (tgt := 90) hx hb dX12_firstAlone_86 (by decide) ?_
          refine lv_iadd hx hb dX12_firstAlone_90 ?_
          refine lv_istore_n (lv' := [(1, .int (x1 + (1 : Int32))), (0, .ref a0), (2, .int x2), (3, .int x3), (4, .int x4)]) hx hb dX12_firstAlone_91 rfl hl (by decide) rfl (fun ls hl => ?_)
          refine lv_iinc (v := (x2 + (1 : Int32))) (lv' := [(2, .int (x2 + (1 : Int32))), (1, .int (x1 + (1 : Int32))), (0, .ref a0), (3, .int x3), (4, .int x4)]) hx hb dX12_firstAlone_92 hl (k := 2) rfl rfl (by decide) rfl (fun ls hl => ?_)
          refine lv_goto (tgt := 4) hx hb dX12_firstAlone_95 (by decide) ?_
          exact hrec4 (x1 + (1 : Int32)) (x2 + (1 : Int32)) H locs ls hf hP hD hS (lv_sub hl [2, 1, 0] rfl)
      · replace hf := im c_4 hf
        refine lv_iload_n hx hb dX12_firstAlone_30 rfl (lv_at hl 3 rfl) ?_
        refine lv_if_eq (tgt := 72) hx hb dX12_firstAlone_31 (by decide) (fun c_6 => ?_) (fun c_6 => ?_)
        · replace hf := ip c_6 hf
          refine lv_iconst (v := 0) hx hb dX12_firstAlone_72 (by decide) ?_
          refine lv_istore_n (lv' := [(3, .int (0 : Int32)), (0, .ref a0), (1, .int x1), (2, .int x2), (4, .int x4)]) hx hb dX12_firstAlone_73 rfl hl (by decide) rfl (fun ls hl => ?_)
          refine lv_iinc (v := (x4 + (1 : Int32))) (lv' := [(4, .int (x4 + (1 : Int32))), (3, .int (0 : Int32)), (0, .ref a0), (1, .int x1), (2, .int x2)]) hx hb dX12_firstAlone_74 hl (k := 4) rfl rfl (by decide) rfl (fun ls hl => ?_)
          refine lv_goto (tgt := 19) hx hb dX12_firstAlone_77 (by decide) ?_
          exact ih x1 x2 (0 : Int32) (x4 + (1 : Int32)) H locs ls hf hP hD hS (lv_sub hl [2, 3, 4, 1, 0] rfl)
        · replace hf := im c_6 hf
          refine lv_iload hx hb dX12_firstAlone_34 (lv_at hl 4 rfl) ?_
          refine lv_iload_n hx hb dX12_firstAlone_36 rfl (lv_at hl 2 rfl) ?_
          refine lv_icmp_eq (tgt := 68) hx hb dX12_firstAlone_37 (by decide) (fun c_7 => ?_) (fun c_7 => ?_)
          · replace hf := ip c_7 hf
            refine lv_iconst (v := 1) hx hb dX12_firstAlone_68 (by decide) ?_
            refine lv_goto (tgt := 73) hx hb dX12_firstAlone_69 (by decide) ?_
            refine lv_istore_n (lv' := [(3, .int (1 : Int32)), (0, .ref a0), (1, .int x1), (2, .int x2), (4, .int x4)]) hx hb dX12_firstAlone_73 rfl hl (by decide) rfl (fun ls hl => ?_)
            refine lv_iinc (v := (x4 + (1 : Int32))) (lv' := [(4, .int (x4 + (1 : Int32))), (3, .int (1 : Int32)), (0, .ref a0), (1, .int x1), (2, .int x2)]) hx hb dX12_firstAlone_74 hl (k := 4) rfl rfl (by decide) rfl (fun ls hl => ?_)
            refine lv_goto (tgt := 19) hx hb dX12_firstAlone_77 (by decide) ?_
            exact ih x1 x2 (1 : Int32) (x4 + (1 : Int32)) H locs ls hf hP hD hS (lv_sub hl [2, 3, 4, 1, 0] rfl)
          · replace hf := im c_7 hf
            refine lv_aload_n hx hb dX12_firstAlone_40 rfl (lv_at hl 0 rfl) ?_
            refine va_get (D := D.1) (ci := 9) (v := .ref a0_all) (C := RX12) (T := TX12) (N := 20) hx hb hts hwX12 hown hK.1 hP 0 rfl rfl 0 (by decide) l7 (fun _ h9 => h9) rfl dX12_firstAlone_41 ?_
            refine lv_iconst (v := 0) hx hb dX12_firstAlone_44 (by decide) ?_
            refine lv_iload hx hb dX12_firstAlone_45 (lv_at hl 4 rfl) ?_
            obtain ⟨r8, hr8, hf⟩ := bd hf
            refine zSi (As := [.int (0 : Int32), .int x4]) (rest := [.ref a0_all]) (wn := [(a0, .inr (9, [.ref a0_all, .ref a0_tape, .ref a0_isImage, .int v0_taped, .int v0_faultKind, .int v0_faultPlace, .int v0_undos, .ref a0_turnWord, .ref a0_turnFrom, .int v0_turns, .ref a0_pieceSign, .ref a0_pieceFrom, .int v0_pieces, .int v0_signs, .ref a0_runFrom, .ref a0_runLong, .ref a0_runPiece, .int v0_runs, .ref a0_alike, .ref a0_stood])), (a0_all, .inl (D.2 1, 5228, .inl g0_all))]) ⟨hx, hb, hml, hown, hts⟩ (mX12_wordAt l D H.size (0 : Int32) x4 r8 hr8) (va_cwS 2 hts gX12_firstAlone_X12_wordAt rfl rfl rfl (by decide +kernel) ⟨Nat.le_of_ble_eq_true rfl, Nat.le_of_ble_eq_true rfl⟩) hK hP hD hS hA [] [0, 1] [0, 1] rfl (by decide) rfl (by decide) (by decide) rfl (by decide) rfl hl.1 rfl (Nat.le_of_ble_eq_true rfl) dX12_firstAlone_47 ⟨Nat.zero_le _, Nat.zero_le _⟩ (fun H locs hP hD hS => ?_)
            refine lv_iconst (v := 1) hx hb dX12_firstAlone_50 (by decide) ?_
            refine lv_iadd hx hb dX12_firstAlone_51 ?_
            obtain ⟨h_9, hf⟩ := gd hf
            refine va_iald hx hb hK.1 hP 1 1 rfl rfl h_9 dX12_firstAlone_52 ?_
            refine lv_aload_n hx hb dX12_firstAlone_53 rfl (lv_at hl 0 rfl) ?_
            refine va_get (D := D.1) (ci := 9) (v := .ref a0_all) (C := RX12) (T := TX12) (N := 20) hx hb hts hwX12 hown hK.1 hP 0 rfl rfl 0 (by decide) l7 (fun _ h9 => h9) rfl dX12_firstAlone_54 ?_
            refine lv_iconst (v := 0) hx hb dX12_firstAlone_57 (by decide) ?_
            refine lv_iload_n hx hb dX12_firstAlone_58 rfl (lv_at hl 2 rfl) ?_
            obtain ⟨r10, hr10, hf⟩ := bd hf
            refine zSi (As := [.int (0 : Int32), .int x2]) (rest := [.ref a0_all, .int (g0_all ((r8 + (1 : Int32))).toNatClampNeg)]) (wn := [(a0, .inr (9, [.ref a0_all, .ref a0_tape, .ref a0_isImage, .int v0_taped, .int v0_faultKind, .int v0_faultPlace, .int v0_undos, .ref a0_turnWord, .ref a0_turnFrom, .int v0_turns, .ref a0_pieceSign, .ref a0_pieceFrom, .int v0_pieces, .int v0_signs, .ref a0_runFrom, .ref a0_runLong, .ref a0_runPiece, .int v0_runs, .ref a0_alike, .ref a0_stood])), (a0_all, .inl (D.2 1, 5228, .inl g0_all))]) ⟨hx, hb, hml, hown, hts⟩ (mX12_wordAt l D H.size (0 : Int32) x2 r10 hr10) (va_cwS 2 hts gX12_firstAlone_X12_wordAt rfl rfl rfl (by decide +kernel) ⟨Nat.le_of_ble_eq_true rfl, Nat.le_of_ble_eq_true rfl⟩) hK hP hD hS hA [] [0, 1] [0, 1] rfl (by decide) rfl (by decide) (by decide) rfl (by decide) rfl hl.1 rfl (Nat.le_of_ble_eq_true rfl) dX12_firstAlone_59 ⟨Nat.zero_le _, Nat.zero_le _⟩ (fun H locs hP hD hS => ?_)
            refine lv_iconst (v := 1) hx hb dX12_firstAlone_62 (by decide) ?_
            refine lv_iadd hx hb dX12_firstAlone_63 ?_
            obtain ⟨h_11, hf⟩ := gd hf
            refine va_iald hx hb hK.1 hP 1 1 rfl rfl h_11 dX12_firstAlone_64 ?_
            refine lv_icmp_eq (tgt := 72) hx hb dX12_firstAlone_65 (by decide) (fun c_12 => ?_) (fun c_12 => ?_)
            · replace hf := ip c_12 hf
              refine lv_iconst (v := 0) hx hb dX12_firstAlone_72 (by decide) ?_
              refine lv_istore_n (lv' := [(3, .int (0 : Int32)), (0, .ref a0), (1, .int x1), (2, .int x2), (4, .int x4)]) hx hb dX12_firstAlone_73 rfl hl (by decide) rfl (fun ls hl => ?_)
              refine lv_iinc (v := (x4 + (1 : Int32))) (lv' := [(4, .int (x4 + (1 : Int32))), (3, .int (0 : Int32)), (0, .ref a0), (1, .int x1), (2, .int x2)]) hx hb dX12_firstAlone_74 hl (k := 4) rfl rfl (by decide) rfl (fun ls hl => ?_)
              refine lv_goto (tgt := 19) hx hb dX12_firstAlone_77 (by decide) ?_
              exact ih x1 x2 (0 : Int32) (x4 + (1 : Int32)) H locs ls hf hP hD hS (lv_sub hl [2, 3, 4, 1, 0] rfl)
            · replace hf := im c_12 hf
              refine lv_iconst (v := 1) hx hb dX12_firstAlone_68 (by decide) ?_
              refine lv_goto (tgt := 73) hx hb dX12_firstAlone_69 (by decide) ?_
              refine lv_istore_n (lv' := [(3, .int (1 : Int32)), (0, .ref a0), (1, .int x1), (2, .int x2), (4, .int x4)]) hx hb dX12_firstAlone_73 rfl hl (by decide) rfl (fun ls hl => ?_)
              refine lv_iinc (v := (x4 + (1 : Int32))) (lv' := [(4, .int (x4 + (1 : Int32))), (3, .int (1 : Int32)), (0, .ref a0), (1, .int x1), (2, .int x2)]) hx hb dX12_firstAlone_74 hl (k := 4) rfl rfl (by decide) rfl (fun ls hl => ?_)
              refine lv_goto (tgt := 19) hx hb dX12_firstAlone_77 (by decide) ?_
              exact ih x1 x2 (1 : Int32) (x4 + (1 : Int32)) H locs ls hf hP hD hS (lv_sub hl [2, 3, 4, 1, 0] rfl)
  have k4 : ∀ K : Nat, ∀ (x1 : Int32) (x2 : Int32) (H : Heap) (locs : List Loc) (ls : Array Slot), fX12_firstAlone_4 N g0_all K x1 x2 = some res → va_P D.1 vwCl [(a0, .inr (9, [.ref a0_all, .ref a0_tape, .ref a0_isImage, .int v0_taped, .int v0_faultKind, .int v0_faultPlace, .int v0_undos, .ref a0_turnWord, .ref a0_turnFrom, .int v0_turns, .ref a0_pieceSign, .ref a0_pieceFrom, .int v0_pieces, .int v0_signs, .ref a0_runFrom, .ref a0_runLong, .ref a0_runPiece, .int v0_runs, .ref a0_alike, .ref a0_stood])), (a0_all, .inl (D.2 1, 5228, .inl g0_all))] H → va_D A [(a0, .inr (9, [.ref a0_all, .ref a0_tape, .ref a0_isImage, .int v0_taped, .int v0_faultKind, .int v0_faultPlace, .int v0_undos, .ref a0_turnWord, .ref a0_turnFrom, .int v0_turns, .ref a0_pieceSign, .ref a0_pieceFrom, .int v0_pieces, .int v0_signs, .ref a0_runFrom, .ref a0_runLong, .ref a0_runPiece, .int v0_runs, .ref a0_alike, .ref a0_stood])), (a0_all, .inl (D.2 1, 5228, .inl g0_all))] → va_S A s.heap H locs → lv_has ls 5 [(0, .ref a0), (1, .int x1), (2, .int x2)] → W p l e (headSpec wsX12_firstAlone ({ frames := 1, cells := 0, slots := 0, locals := 21 } : Room)).room s m ([.ref a0] : List Value).toArray below meth c H locs 0 0 Q0 (F0 m 4 ls []) := by
    intro K
    induction K with
    | zero =>
      intro x1 x2 H locs ls hf
      rw [fX12_firstAlone_4] at hf
      cases hf
    | succ K ih =>
      intro x1 x2 H locs ls hf hP hD hS hl
      rw [fX12_firstAlone_4] at hf
      refine lv_iload_n hx hb dX12_firstAlone_4 rfl (lv_at hl 2 rfl) ?_
      refine lv_aload_n hx hb dX12_firstAlone_5 rfl (lv_at hl 0 rfl) ?_
      refine va_get (D := D.1) (ci := 9) (v := .ref a0_all) (C := RX12) (T := TX12) (N := 20) hx hb hts hwX12 hown hK.1 hP 0 rfl rfl 0 (by decide) l7 (fun _ h9 => h9) rfl dX12_firstAlone_6 ?_
      refine lv_iconst (v := 0) hx hb dX12_firstAlone_9 (by decide) ?_
      obtain ⟨h_1, hf⟩ := gd hf
      refine va_iald hx hb hK.1 hP 1 1 rfl rfl h_1 dX12_firstAlone_10 ?_
      refine lv_icmp_ge (tgt := 98) hx hb dX12_firstAlone_11 (by decide) (fun c_2 => ?_) (fun c_2 => ?_)
      · replace hf := ip c_2 hf
        refine lv_iload_n hx hb dX12_firstAlone_98 rfl (lv_at hl 1 rfl) ?_
        have he := Option.some.inj hf
        rw [hQ]
        exact W.iret (v := x1) hx hb hr (fun t ht hW => by rw [← he]; exact ⟨⟨x1, (), rfl, rfl, by rw [ht]; exact hP, hD⟩, hS.F ht⟩) hS.2.2 dX12_firstAlone_99
      · replace hf := im c_2 hf
        refine lv_iconst (v := 1) hx hb dX12_firstAlone_14 (by decide) ?_
        refine lv_istore_n (lv' := [(3, .int (1 : Int32)), (0, .ref a0), (1, .int x1), (2, .int x2)]) hx hb dX12_firstAlone_15 rfl hl (by decide) rfl (fun ls hl => ?_)
        refine lv_iconst (v := 0) hx hb dX12_firstAlone_16 (by decide) ?_
        refine lv_istore (lv' := [(4, .int (0 : Int32)), (3, .int (1 : Int32)), (0, .ref a0), (1, .int x1), (2, .int x2)]) hx hb dX12_firstAlone_17 hl (by decide) rfl (fun ls hl => ?_)
        exact k19 _ ih N x1 x2 (1 : Int32) (0 : Int32) H locs ls hf hP hD hS (lv_sub hl [2, 3, 4, 1, 0] rfl)
  unfold fX12_firstAlone at hf
  refine lv_iconst (v := 0) hx hb dX12_firstAlone_0 (by decide) ?_
  refine lv_istore_n (lv' := [(1, .int (0 : Int32)), (0, .ref a0)]) hx hb dX12_firstAlone_1 rfl hl (by decide) rfl (fun ls hl => ?_)
  refine lv_iconst (v := 0) hx hb dX12_firstAlone_2 (by decide) ?_
  refine lv_istore_n (lv' := [(2, .int (0 : Int32)), (1, .int (0 : Int32)), (0, .ref a0)]) hx hb dX12_firstAlone_3 rfl hl (by decide) rfl (fun ls hl => ?_)
  exact k4 N (0 : Int32) (0 : Int32) H locs ls hf hP hD hS (lv_sub hl [2, 1, 0] rfl)
def fX12_sharedMany_8 (N : Nat) (g0_all : Nat → Int32) : Nat → Int32 → Int32 → Int32 → Int32 → Int32 → Int32 → (Nat → Int32) → (Nat → Int32) → (Nat → Int32) → (Nat → Int32) → (Nat → Int32) → (Nat → Int32) → (Nat → Int32) → Option (Int32 × Int32 × Int32 × Int32 × Int32 × (Nat → Int32) × (Nat → Int32) × (Nat → Int32) × (Nat → Int32) × (Nat → Int32) × (Nat → Int32) × (Nat → Int32))
  | 0, _, _, _, _, _, _, _, _, _, _, _, _, _ => none
  | K + 1, x1, x2, v0_turns, v0_pieces, v0_signs, v0_runs, g0_turnWord, g0_turnFrom, g0_pieceSign, g0_pieceFrom, g0_runFrom, g0_runLong, g0_runPiece =>
    if (0 : Int32) < 0 ∨ 5228 ≤ ((0 : Int32)).toNatClampNeg then none else
    if (g0_all ((0 : Int32)).toNatClampNeg) ≤ x2 then
      some (x1, v0_turns, v0_pieces, v0_signs, v0_runs, g0_turnWord, g0_turnFrom, g0_pieceSign, g0_pieceFrom, g0_runFrom, g0_runLong, g0_runPiece)
    else
      Option.bind (fX12_isShared N v0_turns v0_runs g0_all g0_turnWord g0_turnFrom g0_pieceSign g0_runFrom g0_runLong x2) fun r4 =>
      if r4 = (0 : Int32) then
        (fX12_sharedMany_8 N g0_all K) (x1 + (0 : Int32)) (x2 + (1 : Int32)) v0_turns v0_pieces v0_signs v0_runs g0_turnWord g0_turnFrom g0_pieceSign g0_pieceFrom g0_runFrom g0_runLong g0_runPiece
      else
        (fX12_sharedMany_8 N g0_all K) (x1 + (1 : Int32)) (x2 + (1 : Int32)) v0_turns v0_pieces v0_signs v0_runs g0_turnWord g0_turnFrom g0_pieceSign g0_pieceFrom g0_runFrom g0_runLong g0_runPiece
def fX12_sharedMany (N : Nat) (v0_turns : Int32) (v0_pieces : Int32) (v0_signs : Int32) (v0_runs : Int32) (g0_all : Nat → Int32) (g0_turnWord : Nat → Int32) (g0_turnFrom : Nat → Int32) (g0_pieceSign : Nat → Int32) (g0_pieceFrom : Nat → Int32) (g0_runFrom : Nat → Int32) (g0_runLong : Nat → Int32) (g0_runPiece : Nat → Int32) : Option (Int32 × Int32 × Int32 × Int32 × Int32 × (Nat → Int32) × (Nat → Int32) × (Nat → Int32) × (Nat → Int32) × (Nat → Int32) × (Nat → Int32) × (Nat → Int32)) :=
  Option.bind (fX12_laysAll N v0_turns v0_pieces v0_signs v0_runs g0_all g0_turnWord g0_turnFrom g0_pieceSign g0_pieceFrom g0_runFrom g0_runLong g0_runPiece) fun r1 =>
  fX12_sharedMany_8 N g0_all N (0 : Int32) (0 : Int32) r1.1 r1.2.1 r1.2.2.1 r1.2.2.2.1 r1.2.2.2.2.1 r1.2.2.2.2.2.1 r1.2.2.2.2.2.2.1 r1.2.2.2.2.2.2.2.1 r1.2.2.2.2.2.2.2.2.1 r1.2.2.2.2.2.2.2.2.2.1 r1.2.2.2.2.2.2.2.2.2.2
set_option maxHeartbeats 4000000 in
set_option maxRecDepth 100000 in
theorem mX12_sharedMany (l : Launch) (D : zG) (a0 : Nat) (a0_all : Nat) (a0_tape : Nat) (a0_isImage : Nat) (a0_turnWord : Nat) (a0_turnFrom : Nat) (a0_pieceSign : Nat) (a0_pieceFrom : Nat) (a0_runFrom : Nat) (a0_runLong : Nat) (a0_runPiece : Nat) (a0_alike : Nat) (a0_stood : Nat) (sz : Nat)  (v0_taped : Int32) (v0_faultKind : Int32) (v0_faultPlace : Int32) (v0_undos : Int32) (v0_turns : Int32) (v0_pieces : Int32) (v0_signs : Int32) (v0_runs : Int32) (g0_all : Nat → Int32) (g0_turnWord : Nat → Int32) (g0_turnFrom : Nat → Int32) (g0_pieceSign : Nat → Int32) (g0_pieceFrom : Nat → Int32) (g0_runFrom : Nat → Int32) (g0_runLong : Nat → Int32) (g0_runPiece : Nat → Int32)  (N : Nat) (res : Int32 × Int32 × Int32 × Int32 × Int32 × (Nat → Int32) × (Nat → Int32) × (Nat → Int32) × (Nat → Int32) × (Nat → Int32) × (Nat → Int32) × (Nat → Int32)) (hf : fX12_sharedMany N v0_turns v0_pieces v0_signs v0_runs g0_all g0_turnWord g0_turnFrom g0_pieceSign g0_pieceFrom g0_runFrom g0_runLong g0_runPiece = some res) : Met l yX12_sharedMany wsX12_sharedMany ({ frames := 5, cells := 0, slots := 0, locals := 118 } : Room) (va_Pc [.ref a0] (zW D sz [(a0, .inr (9, [.ref a0_all, .ref a0_tape, .ref a0_isImage, .int v0_taped, .int v0_faultKind, .int v0_faultPlace, .int v0_undos, .ref a0_turnWord, .ref a0_turnFrom, .int v0_turns, .ref a0_pieceSign, .ref a0_pieceFrom, .int v0_pieces, .int v0_signs, .ref a0_runFrom, .ref a0_runLong, .ref a0_runPiece, .int v0_runs, .ref a0_alike, .ref a0_stood])), (a0_all, .inl (D.2 1, 5228, .inl g0_all)), (a0_turnWord, .inl (D.2 1, 320, .inl g0_turnWord)), (a0_turnFrom, .inl (D.2 1, 320, .inl g0_turnFrom)), (a0_pieceSign, .inl (D.2 1, 40, .inl g0_pieceSign)), (a0_pieceFrom, .inl (D.2 1, 14, .inl g0_pieceFrom)), (a0_runFrom, .inl (D.2 1, 40, .inl g0_runFrom)), (a0_runLong, .inl (D.2 1, 40, .inl g0_runLong)), (a0_runPiece, .inl (D.2 1, 40, .inl g0_runPiece))])) (va_Qi (fun r (_ : Unit) => r = res.1) (fun _ => zB D (va_A [(a0, .inr (9, [.ref a0_all, .ref a0_tape, .ref a0_isImage, .int v0_taped, .int v0_faultKind, .int v0_faultPlace, .int v0_undos, .ref a0_turnWord, .ref a0_turnFrom, .int v0_turns, .ref a0_pieceSign, .ref a0_pieceFrom, .int v0_pieces, .int v0_signs, .ref a0_runFrom, .ref a0_runLong, .ref a0_runPiece, .int v0_runs, .ref a0_alike, .ref a0_stood])), (a0_all, .inl (D.2 1, 5228, .inl g0_all)), (a0_turnWord, .inl (D.2 1, 320, .inl g0_turnWord)), (a0_turnFrom, .inl (D.2 1, 320, .inl g0_turnFrom)), (a0_pieceSign, .inl (D.2 1, 40, .inl g0_pieceSign)), (a0_pieceFrom, .inl (D.2 1, 14, .inl g0_pieceFrom)), (a0_runFrom, .inl (D.2 1, 40, .inl g0_runFrom)), (a0_runLong, .inl (D.2 1, 40, .inl g0_runLong)), (a0_runPiece, .inl (D.2 1, 40, .inl g0_runPiece))] sz) [(a0, .inr (9, [.ref a0_all, .ref a0_tape, .ref a0_isImage, .int v0_taped, .int v0_faultKind, .int v0_faultPlace, .int v0_undos, .ref a0_turnWord, .ref a0_turnFrom, .int res.2.1, .ref a0_pieceSign, .ref a0_pieceFrom, .int res.2.2.1, .int res.2.2.2.1, .ref a0_runFrom, .ref a0_runLong, .ref a0_runPiece, .int res.2.2.2.2.1, .ref a0_alike, .ref a0_stood])), (a0_all, .inl (D.2 1, 5228, .inl g0_all)), (a0_turnWord, .inl (D.2 1, 320, .inl res.2.2.2.2.2.1)), (a0_turnFrom, .inl (D.2 1, 320, .inl res.2.2.2.2.2.2.1)), (a0_pieceSign, .inl (D.2 1, 40, .inl res.2.2.2.2.2.2.2.1)), (a0_pieceFrom, .inl (D.2 1, 14, .inl res.2.2.2.2.2.2.2.2.1)), (a0_runFrom, .inl (D.2 1, 40, .inl res.2.2.2.2.2.2.2.2.2.1)), (a0_runLong, .inl (D.2 1, 40, .inl res.2.2.2.2.2.2.2.2.2.2.1)), (a0_runPiece, .inl (D.2 1, 40, .inl res.2.2.2.2.2.2.2.2.2.2.2))]) (va_A [(a0, .inr (9, [.ref a0_all, .ref a0_tape, .ref a0_isImage, .int v0_taped, .int v0_faultKind, .int v0_faultPlace, .int v0_undos, .ref a0_turnWord, .ref a0_turnFrom, .int v0_turns, .ref a0_pieceSign, .ref a0_pieceFrom, .int v0_pieces, .int v0_signs, .ref a0_runFrom, .ref a0_runLong, .ref a0_runPiece, .int v0_runs, .ref a0_alike, .ref a0_stood])), (a0_all, .inl (D.2 1, 5228, .inl g0_all)), (a0_turnWord, .inl (D.2 1, 320, .inl g0_turnWord)), (a0_turnFrom, .inl (D.2 1, 320, .inl g0_turnFrom)), (a0_pieceSign, .inl (D.2 1, 40, .inl g0_pieceSign)), (a0_pieceFrom, .inl (D.2 1, 14, .inl g0_pieceFrom)), (a0_runFrom, .inl (D.2 1, 40, .inl g0_runFrom)), (a0_runLong, .inl (D.2 1, 40, .inl g0_runLong)), (a0_runPiece, .inl (D.2 1, 40, .inl g0_runPiece))] sz)) 0 0 (va_A [(a0, .inr (9, [.ref a0_all, .ref a0_tape, .ref a0_isImage, .int v0_taped, .int v0_faultKind, .int v0_faultPlace, .int v0_undos, .ref a0_turnWord, .ref a0_turnFrom, .int v0_turns, .ref a0_pieceSign, .ref a0_pieceFrom, .int v0_pieces, .int v0_signs, .ref a0_runFrom, .ref a0_runLong, .ref a0_runPiece, .int v0_runs, .ref a0_alike, .ref a0_stood])), (a0_all, .inl (D.2 1, 5228, .inl g0_all)), (a0_turnWord, .inl (D.2 1, 320, .inl g0_turnWord)), (a0_turnFrom, .inl (D.2 1, 320, .inl g0_turnFrom)), (a0_pieceSign, .inl (D.2 1, 40, .inl g0_pieceSign)), (a0_pieceFrom, .inl (D.2 1, 14, .inl g0_pieceFrom)), (a0_runFrom, .inl (D.2 1, 40, .inl g0_runFrom)), (a0_runLong, .inl (D.2 1, 40, .inl g0_runLong)), (a0_runPiece, .inl (D.2 1, 40, .inl g0_runPiece))] sz) := by
  refine Met.ofW (cc := cX12_sharedMany) (maxL := 3) (ret := (some .int)) (by decide) rfl ?_
  intro p e s m args below meth c s₁ B hml hv
  obtain ⟨rfl, hsz, hP, hK, hD0⟩ := hv
  have hx := B.exec
  have hb := B.bytes
  have hr := B.returns
  have hts := atoms_spec (ws := wsX12_sharedMany) B.pre
  have hown : s.vm.findClass RX12 = some m.cls := findClass_of_methodNamed B.named
  have hlocks := B.notSynchronized
  subst hsz
  have hD := hD0.self (sz := s.heap.size)
  generalize hAe : va_A [(a0, .inr (9, [.ref a0_all, .ref a0_tape, .ref a0_isImage, .int v0_taped, .int v0_faultKind, .int v0_faultPlace, .int v0_undos, .ref a0_turnWord, .ref a0_turnFrom, .int v0_turns, .ref a0_pieceSign, .ref a0_pieceFrom, .int v0_pieces, .int v0_signs, .ref a0_runFrom, .ref a0_runLong, .ref a0_runPiece, .int v0_runs, .ref a0_alike, .ref a0_stood])), (a0_all, .inl (D.2 1, 5228, .inl g0_all)), (a0_turnWord, .inl (D.2 1, 320, .inl g0_turnWord)), (a0_turnFrom, .inl (D.2 1, 320, .inl g0_turnFrom)), (a0_pieceSign, .inl (D.2 1, 40, .inl g0_pieceSign)), (a0_pieceFrom, .inl (D.2 1, 14, .inl g0_pieceFrom)), (a0_runFrom, .inl (D.2 1, 40, .inl g0_runFrom)), (a0_runLong, .inl (D.2 1, 40, .inl g0_runLong)), (a0_runPiece, .inl (D.2 1, 40, .inl g0_runPiece))] s.heap.size = A at hD ⊢
  have hA : ∀ q : Nat, s.heap.size ≤ q → A q := fun q h => by rw [← hAe]; exact Or.inr h
  have l7 := zat hts 1 (w := .fieldLink RX12 7 "TurnedWordsModel" "all" "[I") rfl
  have hwX12 : ∀ w ∈ u_ws RX12 TX12 20, w ∈ wsX12_sharedMany := fun w h => List.mem_cons_of_mem _ (List.mem_append_right _ h)
  have hl := lv_entry ([.ref a0]) (n := 3) (Nat.le_of_ble_eq_true rfl)
  rw [lg_entry_eq]
  generalize (lg_sl ([.ref a0]) ++ List.replicate (3 - (lg_sl ([.ref a0])).length) Slot.unset).toArray = ls at hl ⊢
  have hl : lv_has ls 3 [(0, .ref a0)] := hl
  refine zStart (A := A) hP (fun Q0 H locs hQ hP hS => ?_)
  have k8 : ∀ K : Nat, ∀ (x1 : Int32) (x2 : Int32) (v0_turns : Int32) (v0_pieces : Int32) (v0_signs : Int32) (v0_runs : Int32) (g0_turnWord : Nat → Int32) (g0_turnFrom : Nat → Int32) (g0_pieceSign : Nat → Int32) (g0_pieceFrom : Nat → Int32) (g0_runFrom : Nat → Int32) (g0_runLong : Nat → Int32) (g0_runPiece : Nat → Int32) (H : Heap) (locs : List Loc) (ls : Array Slot), fX12_sharedMany_8 N g0_all K x1 x2 v0_turns v0_pieces v0_signs v0_runs g0_turnWord g0_turnFrom g0_pieceSign g0_pieceFrom g0_runFrom g0_runLong g0_runPiece = some res → va_P D.1 vwCl [(a0, .inr (9, [.ref a0_all, .ref a0_tape, .ref a0_isImage, .int v0_taped, .int v0_faultKind, .int v0_faultPlace, .int v0_undos, .ref a0_turnWord, .ref a0_turnFrom, .int v0_turns, .ref a0_pieceSign, .ref a0_pieceFrom, .int v0_pieces, .int v0_signs, .ref a0_runFrom, .ref a0_runLong, .ref a0_runPiece, .int v0_runs, .ref a0_alike, .ref a0_stood])), (a0_all, .inl (D.2 1, 5228, .inl g0_all)), (a0_turnWord, .inl (D.2 1, 320, .inl g0_turnWord)), (a0_turnFrom, .inl (D.2 1, 320, .inl g0_turnFrom)), (a0_pieceSign, .inl (D.2 1, 40, .inl g0_pieceSign)), (a0_pieceFrom, .inl (D.2 1, 14, .inl g0_pieceFrom)), (a0_runFrom, .inl (D.2 1, 40, .inl g0_runFrom)), (a0_runLong, .inl (D.2 1, 40, .inl g0_runLong)), (a0_runPiece, .inl (D.2 1, 40, .inl g0_runPiece))] H → va_D A [(a0, .inr (9, [.ref a0_all, .ref a0_tape, .ref a0_isImage, .int v0_taped, .int v0_faultKind, .int v0_faultPlace, .int v0_undos, .ref a0_turnWord, .ref a0_turnFrom, .int v0_turns, .ref a0_pieceSign, .ref a0_pieceFrom, .int v0_pieces, .int v0_signs, .ref a0_runFrom, .ref a0_runLong, .ref a0_runPiece, .int v0_runs, .ref a0_alike, .ref a0_stood])), (a0_all, .inl (D.2 1, 5228, .inl g0_all)), (a0_turnWord, .inl (D.2 1, 320, .inl g0_turnWord)), (a0_turnFrom, .inl (D.2 1, 320, .inl g0_turnFrom)), (a0_pieceSign, .inl (D.2 1, 40, .inl g0_pieceSign)), (a0_pieceFrom, .inl (D.2 1, 14, .inl g0_pieceFrom)), (a0_runFrom, .inl (D.2 1, 40, .inl g0_runFrom)), (a0_runLong, .inl (D.2 1, 40, .inl g0_runLong)), (a0_runPiece, .inl (D.2 1, 40, .inl g0_runPiece))] → va_S A s.heap H locs → lv_has ls 3 [(0, .ref a0), (1, .int x1), (2, .int x2)] → W p l e (headSpec wsX12_sharedMany ({ frames := 5, cells := 0, slots := 0, locals := 118 } : Room)).room s m ([.ref a0] : List Value).toArray below meth c H locs 0 0 Q0 (F0 m 8 ls []) := by
    intro K
    induction K with
    | zero =>
      intro x1 x2 v0_turns v0_pieces v0_signs v0_runs g0_turnWord g0_turnFrom g0_pieceSign g0_pieceFrom g0_runFrom g0_runLong g0_runPiece H locs ls hf
      rw [fX12_sharedMany_8] at hf
      cases hf
    | succ K ih =>
      intro x1 x2 v0_turns v0_pieces v0_signs v0_runs g0_turnWord g0_turnFrom g0_pieceSign g0_pieceFrom g0_runFrom g0_runLong g0_runPiece H locs ls hf hP hD hS hl
      rw [fX12_sharedMany_8] at hf
      refine lv_iload_n hx hb dX12_sharedMany_8 rfl (lv_at hl 2 rfl) ?_
      refine lv_aload_n hx hb dX12_sharedMany_9 rfl (lv_at hl 0 rfl) ?_
      refine va_get (D := D.1) (ci := 9) (v := .ref a0_all) (C := RX12) (T := TX12) (N := 20) hx hb hts hwX12 hown hK.1 hP 0 rfl rfl 0 (by decide) l7 (fun _ h9 => h9) rfl dX12_sharedMany_10 ?_
      refine lv_iconst (v := 0) hx hb dX12_sharedMany_13 (by decide) ?_
      obtain ⟨h_2, hf⟩ := gd hf
      refine va_iald hx hb hK.1 hP 1 1 rfl rfl h_2 dX12_sharedMany_14 ?_
      refine lv_icmp_ge (tgt := 40) hx hb dX12_sharedMany_15 (by decide) (fun c_3 => ?_) (fun c_3 => ?_)
      · replace hf := ip c_3 hf
        refine lv_iload_n hx hb dX12_sharedMany_40 rfl (lv_at hl 1 rfl) ?_
        have he := Option.some.inj hf
        rw [hQ]
        exact W.iret (v := x1) hx hb hr (fun t ht hW => by rw [← he]; exact ⟨⟨x1, (), rfl, rfl, by rw [ht]; exact hP, hD⟩, hS.F ht⟩) hS.2.2 dX12_sharedMany_41
      · replace hf := im c_3 hf
        refine lv_iload_n hx hb dX12_sharedMany_18 rfl (lv_at hl 1 rfl) ?_
        refine lv_aload_n hx hb dX12_sharedMany_19 rfl (lv_at hl 0 rfl) ?_
        refine lv_iload_n hx hb dX12_sharedMany_20 rfl (lv_at hl 2 rfl) ?_
        obtain ⟨r4, hr4, hf⟩ := bd hf
        refine zVz (As := [.int x2]) (rest := [.int x1]) (ci := 9) (q0 := 0) (wn := [(a0, .inr (9, [.ref a0_all, .ref a0_tape, .ref a0_isImage, .int v0_taped, .int v0_faultKind, .int v0_faultPlace, .int v0_undos, .ref a0_turnWord, .ref a0_turnFrom, .int v0_turns, .ref a0_pieceSign, .ref a0_pieceFrom, .int v0_pieces, .int v0_signs, .ref a0_runFrom, .ref a0_runLong, .ref a0_runPiece, .int v0_runs, .ref a0_alike, .ref a0_stood])), (a0_all, .inl (D.2 1, 5228, .inl g0_all)), (a0_turnWord, .inl (D.2 1, 320, .inl g0_turnWord)), (a0_turnFrom, .inl (D.2 1, 320, .inl g0_turnFrom)), (a0_pieceSign, .inl (D.2 1, 40, .inl g0_pieceSign)), (a0_pieceFrom, .inl (D.2 1, 14, .inl g0_pieceFrom)), (a0_runFrom, .inl (D.2 1, 40, .inl g0_runFrom)), (a0_runLong, .inl (D.2 1, 40, .inl g0_runLong)), (a0_runPiece, .inl (D.2 1, 40, .inl g0_runPiece))]) ⟨hx, hb, hml, hown, hts⟩ (mX12_isShared l D a0 a0_all a0_tape a0_isImage a0_turnWord a0_turnFrom a0_pieceSign a0_pieceFrom a0_runFrom a0_runLong a0_runPiece a0_alike a0_stood H.size v0_taped v0_faultKind v0_faultPlace v0_undos v0_turns v0_pieces v0_signs v0_runs g0_all g0_turnWord g0_turnFrom g0_pieceSign g0_runFrom g0_runLong x2 N r4 hr4) (cwV 1 hts gX12_sharedMany_X12_isShared rfl rfl rfl (by decide +kernel) ⟨Nat.le_of_ble_eq_true rfl, Nat.le_of_ble_eq_true rfl⟩) hK hP hD hS hA [0, 1, 2, 3, 4, 6, 7] [5, 8] [2, 3, 4, 5, 6, 0, 7, 8, 1] rfl (by decide) rfl (by decide) (by decide) rfl (by decide) rfl rfl rfl hl.1 rfl (Nat.le_of_ble_eq_true rfl) dX12_sharedMany_21 ⟨Nat.zero_le _, Nat.zero_le _⟩ (fun H locs hb_5 hP hD hS => ?_)
        refine lv_if_eq (tgt := 31) hx hb dX12_sharedMany_24 (by decide) (fun c_6 => ?_) (fun c_6 => ?_)
        · replace hf := ip c_6 hf
          refine lv_iconst (v := 0) hx hb dX12_sharedMany_31 (by decide) ?_
          refine lv_iadd hx hb dX12_sharedMany_32 ?_
          refine lv_istore_n (lv' := [(1, .int (x1 + (0 : Int32))), (0, .ref a0), (2, .int x2)]) hx hb dX12_sharedMany_33 rfl hl (by decide) rfl (fun ls hl => ?_)
          refine lv_iinc (v := (x2 + (1 : Int32))) (lv' := [(2, .int (x2 + (1 : Int32))), (1, .int (x1 + (0 : Int32))), (0, .ref a0)]) hx hb dX12_sharedMany_34 hl (k := 2) rfl rfl (by decide) rfl (fun ls hl => ?_)
          refine lv_goto (tgt := 8) hx hb dX12_sharedMany_37 (by decide) ?_
          exact ih (x1 + (0 : Int32)) (x2 + (1 : Int32)) v0_turns v0_pieces v0_signs v0_runs g0_turnWord g0_turnFrom g0_pieceSign g0_pieceFrom g0_runFrom g0_runLong g0_runPiece H locs ls hf hP hD hS (lv_sub hl [2, 1, 0] rfl)
        · replace hf := im c_6 hf
          refine lv_iconst (v := 1) hx hb dX12_sharedMany_27 (by decide) ?_
          refine lv_goto (tgt := 32) hx hb dX12_sharedMany_28 (by decide) ?_
          refine lv_iadd hx hb dX12_sharedMany_32 ?_
          refine lv_istore_n (lv' := [(1, .int (x1 + (1 : Int32))), (0, .ref a0), (2, .int x2)]) hx hb dX12_sharedMany_33 rfl hl (by decide) rfl (fun ls hl => ?_)
          refine lv_iinc (v := (x2 + (1 : Int32))) (lv' := [(2, .int (x2 + (1 : Int32))), (1, .int (x1 + (1 : Int32))), (0, .ref a0)]) hx hb dX12_sharedMany_34 hl (k := 2) rfl rfl (by decide) rfl (fun ls hl => ?_)
          refine lv_goto (tgt := 8) hx hb dX12_sharedMany_37 (by decide) ?_
          exact ih (x1 + (1 : Int32)) (x2 + (1 : Int32)) v0_turns v0_pieces v0_signs v0_runs g0_turnWord g0_turnFrom g0_pieceSign g0_pieceFrom g0_runFrom g0_runLong g0_runPiece H locs ls hf hP hD hS (lv_sub hl [2, 1, 0] rfl)
  unfold fX12_sharedMany at hf
  refine lv_aload_n hx hb dX12_sharedMany_0 rfl (lv_at hl 0 rfl) ?_
  obtain ⟨r1, hr1, hf⟩ := bd hf
  refine zVv (As := []) (rest := []) (ci := 9) (q0 := 0) (wn := [(a0, .inr (9, [.ref a0_all, .ref a0_tape, .ref a0_isImage, .int v0_taped, .int v0_faultKind, .int v0_faultPlace, .int v0_undos, .ref a0_turnWord, .ref a0_turnFrom, .int r1.1, .ref a0_pieceSign, .ref a0_pieceFrom, .int r1.2.1, .int r1.2.2.1, .ref a0_runFrom, .ref a0_runLong, .ref a0_runPiece, .int r1.2.2.2.1, .ref a0_alike, .ref a0_stood])), (a0_all, .inl (D.2 1, 5228, .inl g0_all)), (a0_turnWord, .inl (D.2 1, 320, .inl r1.2.2.2.2.1)), (a0_turnFrom, .inl (D.2 1, 320, .inl r1.2.2.2.2.2.1)), (a0_pieceSign, .inl (D.2 1, 40, .inl r1.2.2.2.2.2.2.1)), (a0_pieceFrom, .inl (D.2 1, 14, .inl r1.2.2.2.2.2.2.2.1)), (a0_runFrom, .inl (D.2 1, 40, .inl r1.2.2.2.2.2.2.2.2.1)), (a0_runLong, .inl (D.2 1, 40, .inl r1.2.2.2.2.2.2.2.2.2.1)), (a0_runPiece, .inl (D.2 1, 40, .inl r1.2.2.2.2.2.2.2.2.2.2))]) ⟨hx, hb, hml, hown, hts⟩ (mX12_laysAll l D a0 a0_all a0_tape a0_isImage a0_turnWord a0_turnFrom a0_pieceSign a0_pieceFrom a0_runFrom a0_runLong a0_runPiece a0_alike a0_stood H.size v0_taped v0_faultKind v0_faultPlace v0_undos v0_turns v0_pieces v0_signs v0_runs g0_all g0_turnWord g0_turnFrom g0_pieceSign g0_pieceFrom g0_runFrom g0_runLong g0_runPiece N r1 hr1) (cwV 0 hts gX12_sharedMany_X12_laysAll rfl rfl rfl (by decide +kernel) ⟨Nat.le_of_ble_eq_true rfl, Nat.le_of_ble_eq_true rfl⟩) hK hP hD hS hA [0, 1, 2, 3, 4, 5, 6, 7, 8] [] [0, 1, 2, 3, 4, 5, 6, 7, 8] rfl (by decide) rfl (by decide) (by decide) rfl (by decide) rfl rfl rfl hl.1 rfl (Nat.le_of_ble_eq_true rfl) dX12_sharedMany_1 ⟨Nat.zero_le _, Nat.zero_le _⟩ (fun H locs hP hD hS => ?_)
  refine lv_iconst (v := 0) hx hb dX12_sharedMany_4 (by decide) ?_
  refine lv_istore_n (lv' := [(1, .int (0 : Int32)), (0, .ref a0)]) hx hb dX12_sharedMany_5 rfl hl (by decide) rfl (fun ls hl => ?_)
  refine lv_iconst (v := 0) hx hb dX12_sharedMany_6 (by decide) ?_
  refine lv_istore_n (lv' := [(2, .int (0 : Int32)), (1, .int (0 : Int32)), (0, .ref a0)]) hx hb dX12_sharedMany_7 rfl hl (by decide) rfl (fun ls hl => ?_)
  exact k8 N (0 : Int32) (0 : Int32) r1.1 r1.2.1 r1.2.2.1 r1.2.2.2.1 r1.2.2.2.2.1 r1.2.2.2.2.2.1 r1.2.2.2.2.2.2.1 r1.2.2.2.2.2.2.2.1 r1.2.2.2.2.2.2.2.2.1 r1.2.2.2.2.2.2.2.2.2.1 r1.2.2.2.2.2.2.2.2.2.2 H locs ls hf hP hD hS (lv_sub hl [2, 1, 0] rfl)
def fX12_count (N : Nat) (v0_taped : Int32) (v0_undos : Int32) (v0_turns : Int32) (v0_pieces : Int32) (v0_signs : Int32) (v0_runs : Int32) (g0_all : Nat → Int32) (g0_turnWord : Nat → Int32) (g0_turnFrom : Nat → Int32) (g0_pieceSign : Nat → Int32) (g0_pieceFrom : Nat → Int32) (g0_runFrom : Nat → Int32) (g0_runLong : Nat → Int32) (g0_runPiece : Nat → Int32) (g0_alike : Nat → Int32) (p1 : Int32) : Option (Int32 × Int32 × Int32 × Int32 × Int32 × (Nat → Int32) × (Nat → Int32) × (Nat → Int32) × (Nat → Int32) × (Nat → Int32) × (Nat → Int32) × (Nat → Int32) × (Nat → Int32) × (Nat → Int32)) :=
  if (p1).toInt < 0 ∨ 16 < (p1).toInt then
    some ((-1 : Int32), v0_turns, v0_pieces, v0_signs, v0_runs, g0_all, g0_turnWord, g0_turnFrom, g0_pieceSign, g0_pieceFrom, g0_runFrom, g0_runLong, g0_runPiece, g0_alike)
  else if p1 = 0 then
    if (0 : Int32) < 0 ∨ 5228 ≤ ((0 : Int32)).toNatClampNeg then none else
    some ((g0_all ((0 : Int32)).toNatClampNeg), v0_turns, v0_pieces, v0_signs, v0_runs, g0_all, g0_turnWord, g0_turnFrom, g0_pieceSign, g0_pieceFrom, g0_runFrom, g0_runLong, g0_runPiece, g0_alike)
  else if p1 = 1 then
    Option.bind (fX12_letters N g0_all) fun r5 =>
    if (0 : Int32) < 0 ∨ 5228 ≤ ((0 : Int32)).toNatClampNeg then none else
    some ((r5 + (g0_all ((0 : Int32)).toNatClampNeg)), v0_turns, v0_pieces, v0_signs, v0_runs, g0_all, g0_turnWord, g0_turnFrom, g0_pieceSign, g0_pieceFrom, g0_runFrom, g0_runLong, g0_runPiece, g0_alike)
  else if p1 = 2 then
    if (321 : Int32) < 0 ∨ 5228 ≤ ((321 : Int32)).toNatClampNeg then none else
    some ((g0_all ((321 : Int32)).toNatClampNeg), v0_turns, v0_pieces, v0_signs, v0_runs, g0_all, g0_turnWord, g0_turnFrom, g0_pieceSign, g0_pieceFrom, g0_runFrom, g0_runLong, g0_runPiece, g0_alike)
  else if p1 = 3 then
    Option.bind (fX12_from N g0_all (1 : Int32)) fun r10 =>
    if r10.1 < 0 ∨ 5228 ≤ (r10.1).toNatClampNeg then none else
    some ((r10.2 (r10.1).toNatClampNeg), v0_turns, v0_pieces, v0_signs, v0_runs, r10.2, g0_turnWord, g0_turnFrom, g0_pieceSign, g0_pieceFrom, g0_runFrom, g0_runLong, g0_runPiece, g0_alike)
  else if p1 = 4 then
    Option.bind (fX12_answers N g0_all (0 : Int32) (430 : Int32)) fun r13 =>
    some (r13, v0_turns, v0_pieces, v0_signs, v0_runs, g0_all, g0_turnWord, g0_turnFrom, g0_pieceSign, g0_pieceFrom, g0_runFrom, g0_runLong, g0_runPiece, g0_alike)
  else if p1 = 5 then
    Option.bind (fX12_from N g0_all (1 : Int32)) fun r15 =>
    Option.bind (fX12_answers N r15.2 r15.1 (430 : Int32)) fun r16 =>
    some (r16, v0_turns, v0_pieces, v0_signs, v0_runs, r15.2, g0_turnWord, g0_turnFrom, g0_pieceSign, g0_pieceFrom, g0_runFrom, g0_runLong, g0_runPiece, g0_alike)
  else if p1 = 6 then
    Option.bind (fX12_laysPieces N v0_pieces v0_signs g0_all g0_pieceSign g0_pieceFrom) fun r18 =>
    some (r18.1, v0_turns, r18.1, r18.2.1, v0_runs, g0_all, g0_turnWord, g0_turnFrom, r18.2.2.1, r18.2.2.2, g0_runFrom, g0_runLong, g0_runPiece, g0_alike)
  else if p1 = 7 then
    Option.bind (fX12_laysRuns N v0_pieces v0_signs v0_runs g0_all g0_pieceSign g0_pieceFrom g0_runFrom g0_runLong g0_runPiece) fun r20 =>
    some (r20.2.2.1, v0_turns, r20.1, r20.2.1, r20.2.2.1, g0_all, g0_turnWord, g0_turnFrom, r20.2.2.2.1, r20.2.2.2.2.1, r20.2.2.2.2.2.1, r20.2.2.2.2.2.2.1, r20.2.2.2.2.2.2.2, g0_alike)
  else if p1 = 8 then
    Option.bind (fX12_laysRuns N v0_pieces v0_signs v0_runs g0_all g0_pieceSign g0_pieceFrom g0_runFrom g0_runLong g0_runPiece) fun r22 =>
    Option.bind (fX12_longest N r22.2.2.1 r22.2.2.2.2.2.2.1) fun r23 =>
    some (r23, v0_turns, r22.1, r22.2.1, r22.2.2.1, g0_all, g0_turnWord, g0_turnFrom, r22.2.2.2.1, r22.2.2.2.2.1, r22.2.2.2.2.2.1, r22.2.2.2.2.2.2.1, r22.2.2.2.2.2.2.2, g0_alike)
  else if p1 = 9 then
    Option.bind (fX12_laysAll N v0_turns v0_pieces v0_signs v0_runs g0_all g0_turnWord g0_turnFrom g0_pieceSign g0_pieceFrom g0_runFrom g0_runLong g0_runPiece) fun r25 =>
    Option.bind (fX12_narrowest N r25.1 r25.2.2.2.1 g0_all r25.2.2.2.2.1 r25.2.2.2.2.2.1 r25.2.2.2.2.2.2.1 r25.2.2.2.2.2.2.2.2.1 r25.2.2.2.2.2.2.2.2.2.1) fun r26 =>
    some (r26, r25.1, r25.2.1, r25.2.2.1, r25.2.2.2.1, g0_all, r25.2.2.2.2.1, r25.2.2.2.2.2.1, r25.2.2.2.2.2.2.1, r25.2.2.2.2.2.2.2.1, r25.2.2.2.2.2.2.2.2.1, r25.2.2.2.2.2.2.2.2.2.1, r25.2.2.2.2.2.2.2.2.2.2, g0_alike)
  else if p1 = 10 then
    Option.bind (fX12_sharedMany N v0_turns v0_pieces v0_signs v0_runs g0_all g0_turnWord g0_turnFrom g0_pieceSign g0_pieceFrom g0_runFrom g0_runLong g0_runPiece) fun r28 =>
    some (r28.1, r28.2.1, r28.2.2.1, r28.2.2.2.1, r28.2.2.2.2.1, g0_all, r28.2.2.2.2.2.1, r28.2.2.2.2.2.2.1, r28.2.2.2.2.2.2.2.1, r28.2.2.2.2.2.2.2.2.1, r28.2.2.2.2.2.2.2.2.2.1, r28.2.2.2.2.2.2.2.2.2.2.1, r28.2.2.2.2.2.2.2.2.2.2.2, g0_alike)
  else if p1 = 11 then
    Option.bind (fX12_stem N g0_all) fun r30 =>
    some (r30, v0_turns, v0_pieces, v0_signs, v0_runs, g0_all, g0_turnWord, g0_turnFrom, g0_pieceSign, g0_pieceFrom, g0_runFrom, g0_runLong, g0_runPiece, g0_alike)
  else if p1 = 12 then
    Option.bind (fX12_asks N g0_all g0_alike) fun r32 =>
    some (r32.1, v0_turns, v0_pieces, v0_signs, v0_runs, g0_all, g0_turnWord, g0_turnFrom, g0_pieceSign, g0_pieceFrom, g0_runFrom, g0_runLong, g0_runPiece, r32.2)
  else if p1 = 13 then
    some (v0_undos, v0_turns, v0_pieces, v0_signs, v0_runs, g0_all, g0_turnWord, g0_turnFrom, g0_pieceSign, g0_pieceFrom, g0_runFrom, g0_runLong, g0_runPiece, g0_alike)
  else if p1 = 14 then
    some (v0_taped, v0_turns, v0_pieces, v0_signs, v0_runs, g0_all, g0_turnWord, g0_turnFrom, g0_pieceSign, g0_pieceFrom, g0_runFrom, g0_runLong, g0_runPiece, g0_alike)
  else if p1 = 15 then
    Option.bind (fX12_letters N g0_all) fun r36 =>
    some (r36, v0_turns, v0_pieces, v0_signs, v0_runs, g0_all, g0_turnWord, g0_turnFrom, g0_pieceSign, g0_pieceFrom, g0_runFrom, g0_runLong, g0_runPiece, g0_alike)
  else if p1 = 16 then
    Option.bind (fX12_firstAlone N g0_all) fun r38 =>
    some (r38, v0_turns, v0_pieces, v0_signs, v0_runs, g0_all, g0_turnWord, g0_turnFrom, g0_pieceSign, g0_pieceFrom, g0_runFrom, g0_runLong, g0_runPiece, g0_alike)
  else none
set_option maxHeartbeats 4000000 in
set_option maxRecDepth 100000 in
theorem mX12_count (l : Launch) (D : zG) (a0 : Nat) (a0_all : Nat) (a0_tape : Nat) (a0_isImage : Nat) (a0_turnWord : Nat) (a0_turnFrom : Nat) (a0_pieceSign : Nat) (a0_pieceFrom : Nat) (a0_runFrom : Nat) (a0_runLong : Nat) (a0_runPiece : Nat) (a0_alike : Nat) (a0_stood : Nat) (sz : Nat)  (v0_taped : Int32) (v0_faultKind : Int32) (v0_faultPlace : Int32) (v0_undos : Int32) (v0_turns : Int32) (v0_pieces : Int32) (v0_signs : Int32) (v0_runs : Int32) (g0_all : Nat → Int32) (g0_turnWord : Nat → Int32) (g0_turnFrom : Nat → Int32) (g0_pieceSign : Nat → Int32) (g0_pieceFrom : Nat → Int32) (g0_runFrom : Nat → Int32) (g0_runLong : Nat → Int32) (g0_runPiece : Nat → Int32) (g0_alike : Nat → Int32) (p1 : Int32) (N : Nat) (res : Int32 × Int32 × Int32 × Int32 × Int32 × (Nat → Int32) × (Nat → Int32) × (Nat → Int32) × (Nat → Int32) × (Nat → Int32) × (Nat → Int32) × (Nat → Int32) × (Nat → Int32) × (Nat → Int32)) (hf : fX12_count N v0_taped v0_undos v0_turns v0_pieces v0_signs v0_runs g0_all g0_turnWord g0_turnFrom g0_pieceSign g0_pieceFrom g0_runFrom g0_runLong g0_runPiece g0_alike p1 = some res) : Met l yX12_count wsX12_count ({ frames := 6, cells := 0, slots := 0, locals := 140 } : Room) (va_Pc [.ref a0, .int p1] (zW D sz [(a0, .inr (9, [.ref a0_all, .ref a0_tape, .ref a0_isImage, .int v0_taped, .int v0_faultKind, .int v0_faultPlace, .int v0_undos, .ref a0_turnWord, .ref a0_turnFrom, .int v0_turns, .ref a0_pieceSign, .ref a0_pieceFrom, .int v0_pieces, .int v0_signs, .ref a0_runFrom, .ref a0_runLong, .ref a0_runPiece, .int v0_runs, .ref a0_alike, .ref a0_stood])), (a0_all, .inl (D.2 1, 5228, .inl g0_all)), (a0_turnWord, .inl (D.2 1, 320, .inl g0_turnWord)), (a0_turnFrom, .inl (D.2 1, 320, .inl g0_turnFrom)), (a0_pieceSign, .inl (D.2 1, 40, .inl g0_pieceSign)), (a0_pieceFrom, .inl (D.2 1, 14, .inl g0_pieceFrom)), (a0_runFrom, .inl (D.2 1, 40, .inl g0_runFrom)), (a0_runLong, .inl (D.2 1, 40, .inl g0_runLong)), (a0_runPiece, .inl (D.2 1, 40, .inl g0_runPiece)), (a0_alike, .inl (D.2 1, 128, .inl g0_alike))])) (va_Qi (fun r (_ : Unit) => r = res.1) (fun _ => zB D (va_A [(a0, .inr (9, [.ref a0_all, .ref a0_tape, .ref a0_isImage, .int v0_taped, .int v0_faultKind, .int v0_faultPlace, .int v0_undos, .ref a0_turnWord, .ref a0_turnFrom, .int v0_turns, .ref a0_pieceSign, .ref a0_pieceFrom, .int v0_pieces, .int v0_signs, .ref a0_runFrom, .ref a0_runLong, .ref a0_runPiece, .int v0_runs, .ref a0_alike, .ref a0_stood])), (a0_all, .inl (D.2 1, 5228, .inl g0_all)), (a0_turnWord, .inl (D.2 1, 320, .inl g0_turnWord)), (a0_turnFrom, .inl (D.2 1, 320, .inl g0_turnFrom)), (a0_pieceSign, .inl (D.2 1, 40, .inl g0_pieceSign)), (a0_pieceFrom, .inl (D.2 1, 14, .inl g0_pieceFrom)), (a0_runFrom, .inl (D.2 1, 40, .inl g0_runFrom)), (a0_runLong, .inl (D.2 1, 40, .inl g0_runLong)), (a0_runPiece, .inl (D.2 1, 40, .inl g0_runPiece)), (a0_alike, .inl (D.2 1, 128, .inl g0_alike))] sz) [(a0, .inr (9, [.ref a0_all, .ref a0_tape, .ref a0_isImage, .int v0_taped, .int v0_faultKind, .int v0_faultPlace, .int v0_undos, .ref a0_turnWord, .ref a0_turnFrom, .int res.2.1, .ref a0_pieceSign, .ref a0_pieceFrom, .int res.2.2.1, .int res.2.2.2.1, .ref a0_runFrom, .ref a0_runLong, .ref a0_runPiece, .int res.2.2.2.2.1, .ref a0_alike, .ref a0_stood])), (a0_all, .inl (D.2 1, 5228, .inl res.2.2.2.2.2.1)), (a0_turnWord, .inl (D.2 1, 320, .inl res.2.2.2.2.2.2.1)), (a0_turnFrom, .inl (D.2 1, 320, .inl res.2.2.2.2.2.2.2.1)), (a0_pieceSign, .inl (D.2 1, 40, .inl res.2.2.2.2.2.2.2.2.1)), (a0_pieceFrom, .inl (D.2 1, 14, .inl res.2.2.2.2.2.2.2.2.2.1)), (a0_runFrom, .inl (D.2 1, 40, .inl res.2.2.2.2.2.2.2.2.2.2.1)), (a0_runLong, .inl (D.2 1, 40, .inl res.2.2.2.2.2.2.2.2.2.2.2.1)), (a0_runPiece, .inl (D.2 1, 40, .inl res.2.2.2.2.2.2.2.2.2.2.2.2.1)), (a0_alike, .inl (D.2 1, 128, .inl res.2.2.2.2.2.2.2.2.2.2.2.2.2))]) (va_A [(a0, .inr (9, [.ref a0_all, .ref a0_tape, .ref a0_isImage, .int v0_taped, .int v0_faultKind, .int v0_faultPlace, .int v0_undos, .ref a0_turnWord, .ref a0_turnFrom, .int v0_turns, .ref a0_pieceSign, .ref a0_pieceFrom, .int v0_pieces, .int v0_signs, .ref a0_runFrom, .ref a0_runLong, .ref a0_runPiece, .int v0_runs, .ref a0_alike, .ref a0_stood])), (a0_all, .inl (D.2 1, 5228, .inl g0_all)), (a0_turnWord, .inl (D.2 1, 320, .inl g0_turnWord)), (a0_turnFrom, .inl (D.2 1, 320, .inl g0_turnFrom)), (a0_pieceSign, .inl (D.2 1, 40, .inl g0_pieceSign)), (a0_pieceFrom, .inl (D.2 1, 14, .inl g0_pieceFrom)), (a0_runFrom, .inl (D.2 1, 40, .inl g0_runFrom)), (a0_runLong, .inl (D.2 1, 40, .inl g0_runLong)), (a0_runPiece, .inl (D.2 1, 40, .inl g0_runPiece)), (a0_alike, .inl (D.2 1, 128, .inl g0_alike))] sz)) 0 0 (va_A [(a0, .inr (9, [.ref a0_all, .ref a0_tape, .ref a0_isImage, .int v0_taped, .int v0_faultKind, .int v0_faultPlace, .int v0_undos, .ref a0_turnWord, .ref a0_turnFrom, .int v0_turns, .ref a0_pieceSign, .ref a0_pieceFrom, .int v0_pieces, .int v0_signs, .ref a0_runFrom, .ref a0_runLong, .ref a0_runPiece, .int v0_runs, .ref a0_alike, .ref a0_stood])), (a0_all, .inl (D.2 1, 5228, .inl g0_all)), (a0_turnWord, .inl (D.2 1, 320, .inl g0_turnWord)), (a0_turnFrom, .inl (D.2 1, 320, .inl g0_turnFrom)), (a0_pieceSign, .inl (D.2 1, 40, .inl g0_pieceSign)), (a0_pieceFrom, .inl (D.2 1, 14, .inl g0_pieceFrom)), (a0_runFrom, .inl (D.2 1, 40, .inl g0_runFrom)), (a0_runLong, .inl (D.2 1, 40, .inl g0_runLong)), (a0_runPiece, .inl (D.2 1, 40, .inl g0_runPiece)), (a0_alike, .inl (D.2 1, 128, .inl g0_alike))] sz) := by
  refine Met.ofW (cc := cX12_count) (maxL := 2) (ret := (some .int)) (by decide) rfl ?_
  intro p e s m args below meth c s₁ B hml hv
  obtain ⟨rfl, hsz, hP, hK, hD0⟩ := hv
  have hx := B.exec
  have hb := B.bytes
  have hr := B.returns
  have hts := atoms_spec (ws := wsX12_count) B.pre
  have hown : s.vm.findClass RX12 = some m.cls := findClass_of_methodNamed B.named
  have hlocks := B.notSynchronized
  subst hsz
  have hD := hD0.self (sz := s.heap.size)
  generalize hAe : va_A [(a0, .inr (9, [.ref a0_all, .ref a0_tape, .ref a0_isImage, .int v0_taped, .int v0_faultKind, .int v0_faultPlace, .int v0_undos, .ref a0_turnWord, .ref a0_turnFrom, .int v0_turns, .ref a0_pieceSign, .ref a0_pieceFrom, .int v0_pieces, .int v0_signs, .ref a0_runFrom, .ref a0_runLong, .ref a0_runPiece, .int v0_runs, .ref a0_alike, .ref a0_stood])), (a0_all, .inl (D.2 1, 5228, .inl g0_all)), (a0_turnWord, .inl (D.2 1, 320, .inl g0_turnWord)), (a0_turnFrom, .inl (D.2 1, 320, .inl g0_turnFrom)), (a0_pieceSign, .inl (D.2 1, 40, .inl g0_pieceSign)), (a0_pieceFrom, .inl (D.2 1, 14, .inl g0_pieceFrom)), (a0_runFrom, .inl (D.2 1, 40, .inl g0_runFrom)), (a0_runLong, .inl (D.2 1, 40, .inl g0_runLong)), (a0_runPiece, .inl (D.2 1, 40, .inl g0_runPiece)), (a0_alike, .inl (D.2 1, 128, .inl g0_alike))] s.heap.size = A at hD ⊢
  have hA : ∀ q : Nat, s.heap.size ≤ q → A q := fun q h => by rw [← hAe]; exact Or.inr h
  have l7 := zat hts 1 (w := .fieldLink RX12 7 "TurnedWordsModel" "all" "[I") rfl
  have l107 := zat hts 2 (w := .fieldLink RX12 107 "TurnedWordsModel" "pieces" "I") rfl
  have l122 := zat hts 3 (w := .fieldLink RX12 122 "TurnedWordsModel" "runs" "I") rfl
  have l177 := zat hts 4 (w := .fieldLink RX12 177 "TurnedWordsModel" "undos" "I") rfl
  have l180 := zat hts 5 (w := .fieldLink RX12 180 "TurnedWordsModel" "taped" "I") rfl
  have hwX12 : ∀ w ∈ u_ws RX12 TX12 20, w ∈ wsX12_count := fun w h => List.mem_cons_of_mem _ (List.mem_append_right _ h)
  have hl := lv_entry ([.ref a0, .int p1]) (n := 2) (Nat.le_of_ble_eq_true rfl)
  rw [lg_entry_eq]
  generalize (lg_sl ([.ref a0, .int p1]) ++ List.replicate (2 - (lg_sl ([.ref a0, .int p1])).length) Slot.unset).toArray = ls at hl ⊢
  have hl : lv_has ls 2 [(0, .ref a0), (1, .int p1)] := hl
  refine zStart (A := A) hP (fun Q0 H locs hQ hP hS => ?_)
  unfold fX12_count at hf
  refine lv_iload_n hx hb dX12_count_0 rfl (lv_at hl 1 rfl) ?_
  by_cases c_1 : (p1).toInt < 0 ∨ 16 < (p1).toInt
  · replace hf := ip c_1 hf
    refine lv_tableOut (tgt := 216) hx hb dX12_count_1 c_1 (by decide) ?_
    refine lv_iconst (v := -1) hx hb dX12_count_216 (by decide) ?_
    have he := Option.some.inj hf
    rw [hQ]
    exact W.iret (v := (-1 : Int32)) hx hb hr (fun t ht hW => by rw [← he]; exact ⟨⟨(-1 : Int32), (), rfl, rfl, by rw [ht]; exact hP, hD⟩, hS.F ht⟩) hS.2.2 dX12_count_217
  · replace hf := im c_1 hf
    by_cases c_2 : p1 = 0
    · replace hf := ip c_2 hf
      refine lv_tableIn (tgt := 84) hx hb dX12_count_1 (by rw [c_2]; decide) (by rw [c_2]; decide) (off := 83) (by rw [c_2]; rfl) (by decide) ?_
      refine lv_aload_n hx hb dX12_count_84 rfl (lv_at hl 0 rfl) ?_
      refine va_get (D := D.1) (ci := 9) (v := .ref a0_all) (C := RX12) (T := TX12) (N := 20) hx hb hts hwX12 hown hK.1 hP 0 rfl rfl 0 (by decide) l7 (fun _ h9 => h9) rfl dX12_count_85 ?_
      refine lv_iconst (v := 0) hx hb dX12_count_88 (by decide) ?_
      obtain ⟨h_3, hf⟩ := gd hf
      refine va_iald hx hb hK.1 hP 1 1 rfl rfl h_3 dX12_count_89 ?_
      have he := Option.some.inj hf
      rw [hQ]
      exact W.iret (v := (g0_all ((0 : Int32)).toNatClampNeg)) hx hb hr (fun t ht hW => by rw [← he]; exact ⟨⟨(g0_all ((0 : Int32)).toNatClampNeg), (), rfl, rfl, by rw [ht]; exact hP, hD⟩, hS.F ht⟩) hS.2.2 dX12_count_90
    replace hf := im c_2 hf
    by_cases c_4 : p1 = 1
    · replace hf := ip c_4 hf
      refine lv_tableIn (tgt := 91) hx hb dX12_count_1 (by rw [c_4]; decide) (by rw [c_4]; decide) (off := 90) (by rw [c_4]; rfl) (by decide) ?_
      refine lv_aload_n hx hb dX12_count_91 rfl (lv_at hl 0 rfl) ?_
      obtain ⟨r5, hr5, hf⟩ := bd hf
      refine zVi (As := []) (rest := []) (ci := 9) (q0 := 0) (wn := [(a0, .inr (9, [.ref a0_all, .ref a0_tape, .ref a0_isImage, .int v0_taped, .int v0_faultKind, .int v0_faultPlace, .int v0_undos, .ref a0_turnWord, .ref a0_turnFrom, .int v0_turns, .ref a0_pieceSign, .ref a0_pieceFrom, .int v0_pieces, .int v0_signs, .ref a0_runFrom, .ref a0_runLong, .ref a0_runPiece, .int v0_runs, .ref a0_alike, .ref a0_stood])), (a0_all, .inl (D.2 1, 5228, .inl g0_all)), (a0_turnWord, .inl (D.2 1, 320, .inl g0_turnWord)), (a0_turnFrom, .inl (D.2 1, 320, .inl g0_turnFrom)), (a0_pieceSign, .inl (D.2 1, 40, .inl g0_pieceSign)), (a0_pieceFrom, .inl (D.2 1, 14, .inl g0_pieceFrom)), (a0_runFrom, .inl (D.2 1, 40, .inl g0_runFrom)), (a0_runLong, .inl (D.2 1, 40, .inl g0_runLong)), (a0_runPiece, .inl (D.2 1, 40, .inl g0_runPiece)), (a0_alike, .inl (D.2 1, 128, .inl g0_alike))]) ⟨hx, hb, hml, hown, hts⟩ (mX12_letters l D a0 a0_all a0_tape a0_isImage a0_turnWord a0_turnFrom a0_pieceSign a0_pieceFrom a0_runFrom a0_runLong a0_runPiece a0_alike a0_stood H.size v0_taped v0_faultKind v0_faultPlace v0_undos v0_turns v0_pieces v0_signs v0_runs g0_all N r5 hr5) (cwV 0 hts gX12_count_X12_letters rfl rfl rfl (by decide +kernel) ⟨Nat.le_of_ble_eq_true rfl, Nat.le_of_ble_eq_true rfl⟩) hK hP hD hS hA [0, 1] [2, 3, 4, 5, 6, 7, 8, 9] [8, 9, 0, 1, 2, 3, 4, 5, 6, 7] rfl (by decide) rfl (by decide) (by decide) rfl (by decide) rfl rfl rfl hl.1 rfl (Nat.le_of_ble_eq_true rfl) dX12_count_92 ⟨Nat.zero_le _, Nat.zero_le _⟩ (fun H locs hP hD hS => ?_)
      refine lv_aload_n hx hb dX12_count_95 rfl (lv_at hl 0 rfl) ?_
      refine va_get (D := D.1) (ci := 9) (v := .ref a0_all) (C := RX12) (T := TX12) (N := 20) hx hb hts hwX12 hown hK.1 hP 0 rfl rfl 0 (by decide) l7 (fun _ h9 => h9) rfl dX12_count_96 ?_
      refine lv_iconst (v := 0) hx hb dX12_count_99 (by decide) ?_
      obtain ⟨h_6, hf⟩ := gd hf
      refine va_iald hx hb hK.1 hP 1 1 rfl rfl h_6 dX12_count_100 ?_
      refine lv_iadd hx hb dX12_count_101 ?_
      have he := Option.some.inj hf
      rw [hQ]
      exact W.iret (v := (r5 + (g0_all ((0 : Int32)).toNatClampNeg))) hx hb hr (fun t ht hW => by rw [← he]; exact ⟨⟨(r5 + (g0_all ((0 : Int32)).toNatClampNeg)), (), rfl, rfl, by rw [ht]; exact hP, hD⟩, hS.F ht⟩) hS.2.2 dX12_count_102
    replace hf := im c_4 hf
    by_cases c_7 : p1 = 2
    · replace hf := ip c_7 hf
      refine lv_tableIn (tgt := 103) hx hb dX12_count_1 (by rw [c_7]; decide) (by rw [c_7]; decide) (off := 102) (by rw [c_7]; rfl) (by decide) ?_
      refine lv_aload_n hx hb dX12_count_103 rfl (lv_at hl 0 rfl) ?_
      refine va_get (D := D.1) (ci := 9) (v := .ref a0_all) (C := RX12) (T := TX12) (N := 20) hx hb hts hwX12 hown hK.1 hP 0 rfl rfl 0 (by decide) l7 (fun _ h9 => h9) rfl dX12_count_104 ?_
      refine lv_sipush (v := 321) hx hb dX12_count_107 (by decide) ?_
      obtain ⟨h_8, hf⟩ := gd hf
      refine va_iald hx hb hK.1 hP 1 1 rfl rfl h_8 dX12_count_110 ?_
      have he := Option.some.inj hf
      rw [hQ]
      exact W.iret (v := (g0_all ((321 : Int32)).toNatClampNeg)) hx hb hr (fun t ht hW => by rw [← he]; exact ⟨⟨(g0_all ((321 : Int32)).toNatClampNeg), (), rfl, rfl, by rw [ht]; exact hP, hD⟩, hS.F ht⟩) hS.2.2 dX12_count_111
    replace hf := im c_7 hf
    by_cases c_9 : p1 = 3
    · replace hf := ip c_9 hf
      refine lv_tableIn (tgt := 112) hx hb dX12_count_1 (by rw [c_9]; decide) (by rw [c_9]; decide) (off := 111) (by rw [c_9]; rfl) (by decide) ?_
      refine lv_aload_n hx hb dX12_count_112 rfl (lv_at hl 0 rfl) ?_
      refine va_get (D := D.1) (ci := 9) (v := .ref a0_all) (C := RX12) (T := TX12) (N := 20) hx hb hts hwX12 hown hK.1 hP 0 rfl rfl 0 (by decide) l7 (fun _ h9 => h9) rfl dX12_count_113 ?_
      refine lv_aload_n hx hb dX12_count_116 rfl (lv_at hl 0 rfl) ?_
      refine lv_iconst (v := 1) hx hb dX12_count_117 (by decide) ?_
      obtain ⟨r10, hr10, hf⟩ := bd hf
      refine zVi (As := [.int (1 : Int32)]) (rest := [.ref a0_all]) (ci := 9) (q0 := 0) (wn := [(a0, .inr (9, [.ref a0_all, .ref a0_tape, .ref a0_isImage, .int v0_taped, .int v0_faultKind, .int v0_faultPlace, .int v0_undos, .ref a0_turnWord, .ref a0_turnFrom, .int v0_turns, .ref a0_pieceSign, .ref a0_pieceFrom, .int v0_pieces, .int v0_signs, .ref a0_runFrom, .ref a0_runLong, .ref a0_runPiece, .int v0_runs, .ref a0_alike, .ref a0_stood])), (a0_all, .inl (D.2 1, 5228, .inl r10.2)), (a0_turnWord, .inl (D.2 1, 320, .inl g0_turnWord)), (a0_turnFrom, .inl (D.2 1, 320, .inl g0_turnFrom)), (a0_pieceSign, .inl (D.2 1, 40, .inl g0_pieceSign)), (a0_pieceFrom, .inl (D.2 1, 14, .inl g0_pieceFrom)), (a0_runFrom, .inl (D.2 1, 40, .inl g0_runFrom)), (a0_runLong, .inl (D.2 1, 40, .inl g0_runLong)), (a0_runPiece, .inl (D.2 1, 40, .inl g0_runPiece)), (a0_alike, .inl (D.2 1, 128, .inl g0_alike))]) ⟨hx, hb, hml, hown, hts⟩ (mX12_from l D a0 a0_all a0_tape a0_isImage a0_turnWord a0_turnFrom a0_pieceSign a0_pieceFrom a0_runFrom a0_runLong a0_runPiece a0_alike a0_stood H.size v0_taped v0_faultKind v0_faultPlace v0_undos v0_turns v0_pieces v0_signs v0_runs g0_all (1 : Int32) N r10 hr10) (cwV 1 hts gX12_count_X12_from rfl rfl rfl (by decide +kernel) ⟨Nat.le_of_ble_eq_true rfl, Nat.le_of_ble_eq_true rfl⟩) hK hP hD hS hA [0, 1] [2, 3, 4, 5, 6, 7, 8, 9] [8, 9, 0, 1, 2, 3, 4, 5, 6, 7] rfl (by decide) rfl (by decide) (by decide) rfl (by decide) rfl rfl rfl hl.1 rfl (Nat.le_of_ble_eq_true rfl) dX12_count_118 ⟨Nat.zero_le _, Nat.zero_le _⟩ (fun H locs hP hD hS => ?_)
      obtain ⟨h_11, hf⟩ := gd hf
      refine va_iald hx hb hK.1 hP 1 1 rfl rfl h_11 dX12_count_121 ?_
      have he := Option.some.inj hf
      rw [hQ]
      exact W.iret (v := (r10.2 (r10.1).toNatClampNeg)) hx hb hr (fun t ht hW => by rw [← he]; exact ⟨⟨(r10.2 (r10.1).toNatClampNeg), (), rfl, rfl, by rw [ht]; exact hP, hD⟩, hS.F ht⟩) hS.2.2 dX12_count_122
    replace hf := im c_9 hf
    by_cases c_12 : p1 = 4
    · replace hf := ip c_12 hf
      refine lv_tableIn (tgt := 123) hx hb dX12_count_1 (by rw [c_12]; decide) (by rw [c_12]; decide) (off := 122) (by rw [c_12]; rfl) (by decide) ?_
      refine lv_aload_n hx hb dX12_count_123 rfl (lv_at hl 0 rfl) ?_
      refine lv_iconst (v := 0) hx hb dX12_count_124 (by decide) ?_
      refine lv_sipush (v := 430) hx hb dX12_count_125 (by decide) ?_
      obtain ⟨r13, hr13, hf⟩ := bd hf
      refine zVi (As := [.int (0 : Int32), .int (430 : Int32)]) (rest := []) (ci := 9) (q0 := 0) (wn := [(a0, .inr (9, [.ref a0_all, .ref a0_tape, .ref a0_isImage, .int v0_taped, .int v0_faultKind, .int v0_faultPlace, .int v0_undos, .ref a0_turnWord, .ref a0_turnFrom, .int v0_turns, .ref a0_pieceSign, .ref a0_pieceFrom, .int v0_pieces, .int v0_signs, .ref a0_runFrom, .ref a0_runLong, .ref a0_runPiece, .int v0_runs, .ref a0_alike, .ref a0_stood])), (a0_all, .inl (D.2 1, 5228, .inl g0_all)), (a0_turnWord, .inl (D.2 1, 320, .inl g0_turnWord)), (a0_turnFrom, .inl (D.2 1, 320, .inl g0_turnFrom)), (a0_pieceSign, .inl (D.2 1, 40, .inl g0_pieceSign)), (a0_pieceFrom, .inl (D.2 1, 14, .inl g0_pieceFrom)), (a0_runFrom, .inl (D.2 1, 40, .inl g0_runFrom)), (a0_runLong, .inl (D.2 1, 40, .inl g0_runLong)), (a0_runPiece, .inl (D.2 1, 40, .inl g0_runPiece)), (a0_alike, .inl (D.2 1, 128, .inl g0_alike))]) ⟨hx, hb, hml, hown, hts⟩ (mX12_answers l D a0 a0_all a0_tape a0_isImage a0_turnWord a0_turnFrom a0_pieceSign a0_pieceFrom a0_runFrom a0_runLong a0_runPiece a0_alike a0_stood H.size v0_taped v0_faultKind v0_faultPlace v0_undos v0_turns v0_pieces v0_signs v0_runs g0_all (0 : Int32) (430 : Int32) N r13 hr13) (cwV 2 hts gX12_count_X12_answers rfl rfl rfl (by decide +kernel) ⟨Nat.le_of_ble_eq_true rfl, Nat.le_of_ble_eq_true rfl⟩) hK hP hD hS hA [0, 1] [2, 3, 4, 5, 6, 7, 8, 9] [8, 9, 0, 1, 2, 3, 4, 5, 6, 7] rfl (by decide) rfl (by decide) (by decide) rfl (by decide) rfl rfl rfl hl.1 rfl (Nat.le_of_ble_eq_true rfl) dX12_count_128 ⟨Nat.zero_le _, Nat.zero_le _⟩ (fun H locs hP hD hS => ?_)
      have he := Option.some.inj hf
      rw [hQ]
      exact W.iret (v := r13) hx hb hr (fun t ht hW => by rw [← he]; exact ⟨⟨r13, (), rfl, rfl, by rw [ht]; exact hP, hD⟩, hS.F ht⟩) hS.2.2 dX12_count_131
    replace hf := im c_12 hf
    by_cases c_14 : p1 = 5
    · replace hf := ip c_14 hf
      refine lv_tableIn (tgt := 132) hx hb dX12_count_1 (by rw [c_14]; decide) (by rw [c_14]; decide) (off := 131) (by rw [c_14]; rfl) (by decide) ?_
      refine lv_aload_n hx hb dX12_count_132 rfl (lv_at hl 0 rfl) ?_
      refine lv_aload_n hx hb dX12_count_133 rfl (lv_at hl 0 rfl) ?_
      refine lv_iconst (v := 1) hx hb dX12_count_134 (by decide) ?_
      obtain ⟨r15, hr15, hf⟩ := bd hf
      refine zVi (As := [.int (1 : Int32)]) (rest := [.ref a0]) (ci := 9) (q0 := 0) (wn := [(a0, .inr (9, [.ref a0_all, .ref a0_tape, .ref a0_isImage, .int v0_taped, .int v0_faultKind, .int v0_faultPlace, .int v0_undos, .ref a0_turnWord, .ref a0_turnFrom, .int v0_turns, .ref a0_pieceSign, .ref a0_pieceFrom, .int v0_pieces, .int v0_signs, .ref a0_runFrom, .ref a0_runLong, .ref a0_runPiece, .int v0_runs, .ref a0_alike, .ref a0_stood])), (a0_all, .inl (D.2 1, 5228, .inl r15.2)), (a0_turnWord, .inl (D.2 1, 320, .inl g0_turnWord)), (a0_turnFrom, .inl (D.2 1, 320, .inl g0_turnFrom)), (a0_pieceSign, .inl (D.2 1, 40, .inl g0_pieceSign)), (a0_pieceFrom, .inl (D.2 1, 14, .inl g0_pieceFrom)), (a0_runFrom, .inl (D.2 1, 40, .inl g0_runFrom)), (a0_runLong, .inl (D.2 1, 40, .inl g0_runLong)), (a0_runPiece, .inl (D.2 1, 40, .inl g0_runPiece)), (a0_alike, .inl (D.2 1, 128, .inl g0_alike))]) ⟨hx, hb, hml, hown, hts⟩ (mX12_from l D a0 a0_all a0_tape a0_isImage a0_turnWord a0_turnFrom a0_pieceSign a0_pieceFrom a0_runFrom a0_runLong a0_runPiece a0_alike a0_stood H.size v0_taped v0_faultKind v0_faultPlace v0_undos v0_turns v0_pieces v0_signs v0_runs g0_all (1 : Int32) N r15 hr15) (cwV 1 hts gX12_count_X12_from rfl rfl rfl (by decide +kernel) ⟨Nat.le_of_ble_eq_true rfl, Nat.le_of_ble_eq_true rfl⟩) hK hP hD hS hA [0, 1] [2, 3, 4, 5, 6, 7, 8, 9] [8, 9, 0, 1, 2, 3, 4, 5, 6, 7] rfl (by decide) rfl (by decide) (by decide) rfl (by decide) rfl rfl rfl hl.1 rfl (Nat.le_of_ble_eq_true rfl) dX12_count_135 ⟨Nat.zero_le _, Nat.zero_le _⟩ (fun H locs hP hD hS => ?_)
      refine lv_sipush (v := 430) hx hb dX12_count_138 (by decide) ?_
      obtain ⟨r16, hr16, hf⟩ := bd hf
      refine zVi (As := [.int r15.1, .int (430 : Int32)]) (rest := []) (ci := 9) (q0 := 0) (wn := [(a0, .inr (9, [.ref a0_all, .ref a0_tape, .ref a0_isImage, .int v0_taped, .int v0_faultKind, .int v0_faultPlace, .int v0_undos, .ref a0_turnWord, .ref a0_turnFrom, .int v0_turns, .ref a0_pieceSign, .ref a0_pieceFrom, .int v0_pieces, .int v0_signs, .ref a0_runFrom, .ref a0_runLong, .ref a0_runPiece, .int v0_runs, .ref a0_alike, .ref a0_stood])), (a0_all, .inl (D.2 1, 5228, .inl r15.2)), (a0_turnWord, .inl (D.2 1, 320, .inl g0_turnWord)), (a0_turnFrom, .inl (D.2 1, 320, .inl g0_turnFrom)), (a0_pieceSign, .inl (D.2 1, 40, .inl g0_pieceSign)), (a0_pieceFrom, .inl (D.2 1, 14, .inl g0_pieceFrom)), (a0_runFrom, .inl (D.2 1, 40, .inl g0_runFrom)), (a0_runLong, .inl (D.2 1, 40, .inl g0_runLong)), (a0_runPiece, .inl (D.2 1, 40, .inl g0_runPiece)), (a0_alike, .inl (D.2 1, 128, .inl g0_alike))]) ⟨hx, hb, hml, hown, hts⟩ (mX12_answers l D a0 a0_all a0_tape a0_isImage a0_turnWord a0_turnFrom a0_pieceSign a0_pieceFrom a0_runFrom a0_runLong a0_runPiece a0_alike a0_stood H.size v0_taped v0_faultKind v0_faultPlace v0_undos v0_turns v0_pieces v0_signs v0_runs r15.2 r15.1 (430 : Int32) N r16 hr16) (cwV 2 hts gX12_count_X12_answers rfl rfl rfl (by decide +kernel) ⟨Nat.le_of_ble_eq_true rfl, Nat.le_of_ble_eq_true rfl⟩) hK hP hD hS hA [0, 1] [2, 3, 4, 5, 6, 7, 8, 9] [8, 9, 0, 1, 2, 3, 4, 5, 6, 7] rfl (by decide) rfl (by decide) (by decide) rfl (by decide) rfl rfl rfl hl.1 rfl (Nat.le_of_ble_eq_true rfl) dX12_count_141 ⟨Nat.zero_le _, Nat.zero_le _⟩ (fun H locs hP hD hS => ?_)
      have he := Option.some.inj hf
      rw [hQ]
      exact W.iret (v := r16) hx hb hr (fun t ht hW => by rw [← he]; exact ⟨⟨r16, (), rfl, rfl, by rw [ht]; exact hP, hD⟩, hS.F ht⟩) hS.2.2 dX12_count_144
    replace hf := im c_14 hf
    by_cases c_17 : p1 = 6
    · replace hf := ip c_17 hf
      refine lv_tableIn (tgt := 145) hx hb dX12_count_1 (by rw [c_17]; decide) (by rw [c_17]; decide) (off := 144) (by rw [c_17]; rfl) (by decide) ?_
      refine lv_aload_n hx hb dX12_count_145 rfl (lv_at hl 0 rfl) ?_
      obtain ⟨r18, hr18, hf⟩ := bd hf
      refine zVv (As := []) (rest := []) (ci := 9) (q0 := 0) (wn := [(a0, .inr (9, [.ref a0_all, .ref a0_tape, .ref a0_isImage, .int v0_taped, .int v0_faultKind, .int v0_faultPlace, .int v0_undos, .ref a0_turnWord, .ref a0_turnFrom, .int v0_turns, .ref a0_pieceSign, .ref a0_pieceFrom, .int r18.1, .int r18.2.1, .ref a0_runFrom, .ref a0_runLong, .ref a0_runPiece, .int v0_runs, .ref a0_alike, .ref a0_stood])), (a0_all, .inl (D.2 1, 5228, .inl g0_all)), (a0_turnWord, .inl (D.2 1, 320, .inl g0_turnWord)), (a0_turnFrom, .inl (D.2 1, 320, .inl g0_turnFrom)), (a0_pieceSign, .inl (D.2 1, 40, .inl r18.2.2.1)), (a0_pieceFrom, .inl (D.2 1, 14, .inl r18.2.2.2)), (a0_runFrom, .inl (D.2 1, 40, .inl g0_runFrom)), (a0_runLong, .inl (D.2 1, 40, .inl g0_runLong)), (a0_runPiece, .inl (D.2 1, 40, .inl g0_runPiece)), (a0_alike, .inl (D.2 1, 128, .inl g0_alike))]) ⟨hx, hb, hml, hown, hts⟩ (mX12_laysPieces l D a0 a0_all a0_tape a0_isImage a0_turnWord a0_turnFrom a0_pieceSign a0_pieceFrom a0_runFrom a0_runLong a0_runPiece a0_alike a0_stood H.size v0_taped v0_faultKind v0_faultPlace v0_undos v0_turns v0_pieces v0_signs v0_runs g0_all g0_pieceSign g0_pieceFrom N r18 hr18) (cwV 0 hts gX12_count_X12_laysPieces rfl rfl rfl (by decide +kernel) ⟨Nat.le_of_ble_eq_true rfl, Nat.le_of_ble_eq_true rfl⟩) hK hP hD hS hA [0, 1, 4, 5] [2, 3, 6, 7, 8, 9] [6, 7, 0, 1, 8, 9, 2, 3, 4, 5] rfl (by decide) rfl (by decide) (by decide) rfl (by decide) rfl rfl rfl hl.1 rfl (Nat.le_of_ble_eq_true rfl) dX12_count_146 ⟨Nat.zero_le _, Nat.zero_le _⟩ (fun H locs hP hD hS => ?_)
      refine lv_aload_n hx hb dX12_count_149 rfl (lv_at hl 0 rfl) ?_
      refine va_get (D := D.1) (ci := 9) (v := .int r18.1) (C := RX12) (T := TX12) (N := 20) hx hb hts hwX12 hown hK.1 hP 0 rfl rfl 12 (by decide) l107 (fun _ h9 => h9) rfl dX12_count_150 ?_
      have he := Option.some.inj hf
      rw [hQ]
      exact W.iret (v := r18.1) hx hb hr (fun t ht hW => by rw [← he]; exact ⟨⟨r18.1, (), rfl, rfl, by rw [ht]; exact hP, hD⟩, hS.F ht⟩) hS.2.2 dX12_count_153
    replace hf := im c_17 hf
    by_cases c_19 : p1 = 7
    · replace hf := ip c_19 hf
      refine lv_tableIn (tgt := 154) hx hb dX12_count_1 (by rw [c_19]; decide) (by rw [c_19]; decide) (off := 153) (by rw [c_19]; rfl) (by decide) ?_
      refine lv_aload_n hx hb dX12_count_154 rfl (lv_at hl 0 rfl) ?_
      obtain ⟨r20, hr20, hf⟩ := bd hf
      refine zVv (As := []) (rest := []) (ci := 9) (q0 := 0) (wn := [(a0, .inr (9, [.ref a0_all, .ref a0_tape, .ref a0_isImage, .int v0_taped, .int v0_faultKind, .int v0_faultPlace, .int v0_undos, .ref a0_turnWord, .ref a0_turnFrom, .int v0_turns, .ref a0_pieceSign, .ref a0_pieceFrom, .int r20.1, .int r20.2.1, .ref a0_runFrom, .ref a0_runLong, .ref a0_runPiece, .int r20.2.2.1, .ref a0_alike, .ref a0_stood])), (a0_all, .inl (D.2 1, 5228, .inl g0_all)), (a0_turnWord, .inl (D.2 1, 320, .inl g0_turnWord)), (a0_turnFrom, .inl (D.2 1, 320, .inl g0_turnFrom)), (a0_pieceSign, .inl (D.2 1, 40, .inl r20.2.2.2.1)), (a0_pieceFrom, .inl (D.2 1, 14, .inl r20.2.2.2.2.1)), (a0_runFrom, .inl (D.2 1, 40, .inl r20.2.2.2.2.2.1)), (a0_runLong, .inl (D.2 1, 40, .inl r20.2.2.2.2.2.2.1)), (a0_runPiece, .inl (D.2 1, 40, .inl r20.2.2.2.2.2.2.2)), (a0_alike, .inl (D.2 1, 128, .inl g0_alike))]) ⟨hx, hb, hml, hown, hts⟩ (mX12_laysRuns l D a0 a0_all a0_tape a0_isImage a0_turnWord a0_turnFrom a0_pieceSign a0_pieceFrom a0_runFrom a0_runLong a0_runPiece a0_alike a0_stood H.size v0_taped v0_faultKind v0_faultPlace v0_undos v0_turns v0_pieces v0_signs v0_runs g0_all g0_pieceSign g0_pieceFrom g0_runFrom g0_runLong g0_runPiece N r20 hr20) (cwV 0 hts gX12_count_X12_laysRuns rfl rfl rfl (by decide +kernel) ⟨Nat.le_of_ble_eq_true rfl, Nat.le_of_ble_eq_true rfl⟩) hK hP hD hS hA [0, 1, 4, 5, 6, 7, 8] [2, 3, 9] [3, 4, 0, 1, 5, 6, 7, 8, 9, 2] rfl (by decide) rfl (by decide) (by decide) rfl (by decide) rfl rfl rfl hl.1 rfl (Nat.le_of_ble_eq_true rfl) dX12_count_155 ⟨Nat.zero_le _, Nat.zero_le _⟩ (fun H locs hP hD hS => ?_)
      refine lv_aload_n hx hb dX12_count_158 rfl (lv_at hl 0 rfl) ?_
      refine va_get (D := D.1) (ci := 9) (v := .int r20.2.2.1) (C := RX12) (T := TX12) (N := 20) hx hb hts hwX12 hown hK.1 hP 0 rfl rfl 17 (by decide) l122 (fun _ h9 => h9) rfl dX12_count_159 ?_
      have he := Option.some.inj hf
      rw [hQ]
      exact W.iret (v := r20.2.2.1) hx hb hr (fun t ht hW => by rw [← he]; exact ⟨⟨r20.2.2.1, (), rfl, rfl, by rw [ht]; exact hP, hD⟩, hS.F ht⟩) hS.2.2 dX12_count_162
    replace hf := im c_19 hf
    by_cases c_21 : p1 = 8
    · replace hf := ip c_21 hf
      refine lv_tableIn (tgt := 163) hx hb dX12_count_1 (by rw [c_21]; decide) (by rw [c_21]; decide) (off := 162) (by rw [c_21]; rfl) (by decide) ?_
      refine lv_aload_n hx hb dX12_count_163 rfl (lv_at hl 0 rfl) ?_
      obtain ⟨r22, hr22, hf⟩ := bd hf
      refine zVv (As := []) (rest := []) (ci := 9) (q0 := 0) (wn := [(a0, .inr (9, [.ref a0_all, .ref a0_tape, .ref a0_isImage, .int v0_taped, .int v0_faultKind, .int v0_faultPlace, .int v0_undos, .ref a0_turnWord, .ref a0_turnFrom, .int v0_turns, .ref a0_pieceSign, .ref a0_pieceFrom, .int r22.1, .int r22.2.1, .ref a0_runFrom, .ref a0_runLong, .ref a0_runPiece, .int r22.2.2.1, .ref a0_alike, .ref a0_stood])), (a0_all, .inl (D.2 1, 5228, .inl g0_all)), (a0_turnWord, .inl (D.2 1, 320, .inl g0_turnWord)), (a0_turnFrom, .inl (D.2 1, 320, .inl g0_turnFrom)), (a0_pieceSign, .inl (D.2 1, 40, .inl r22.2.2.2.1)), (a0_pieceFrom, .inl (D.2 1, 14, .inl r22.2.2.2.2.1)), (a0_runFrom, .inl (D.2 1, 40, .inl r22.2.2.2.2.2.1)), (a0_runLong, .inl (D.2 1, 40, .inl r22.2.2.2.2.2.2.1)), (a0_runPiece, .inl (D.2 1, 40, .inl r22.2.2.2.2.2.2.2)), (a0_alike, .inl (D.2 1, 128, .inl g0_alike))]) ⟨hx, hb, hml, hown, hts⟩ (mX12_laysRuns l D a0 a0_all a0_tape a0_isImage a0_turnWord a0_turnFrom a0_pieceSign a0_pieceFrom a0_runFrom a0_runLong a0_runPiece a0_alike a0_stood H.size v0_taped v0_faultKind v0_faultPlace v0_undos v0_turns v0_pieces v0_signs v0_runs g0_all g0_pieceSign g0_pieceFrom g0_runFrom g0_runLong g0_runPiece N r22 hr22) (cwV 0 hts gX12_count_X12_laysRuns rfl rfl rfl (by decide +kernel) ⟨Nat.le_of_ble_eq_true rfl, Nat.le_of_ble_eq_true rfl⟩) hK hP hD hS hA [0, 1, 4, 5, 6, 7, 8] [2, 3, 9] [3, 4, 0, 1, 5, 6, 7, 8, 9, 2] rfl (by decide) rfl (by decide) (by decide) rfl (by decide) rfl rfl rfl hl.1 rfl (Nat.le_of_ble_eq_true rfl) dX12_count_164 ⟨Nat.zero_le _, Nat.zero_le _⟩ (fun H locs hP hD hS => ?_)
      refine lv_aload_n hx hb dX12_count_167 rfl (lv_at hl 0 rfl) ?_
      obtain ⟨r23, hr23, hf⟩ := bd hf
      refine zVi (As := []) (rest := []) (ci := 9) (q0 := 0) (wn := [(a0, .inr (9, [.ref a0_all, .ref a0_tape, .ref a0_isImage, .int v0_taped, .int v0_faultKind, .int v0_faultPlace, .int v0_undos, .ref a0_turnWord, .ref a0_turnFrom, .int v0_turns, .ref a0_pieceSign, .ref a0_pieceFrom, .int r22.1, .int r22.2.1, .ref a0_runFrom, .ref a0_runLong, .ref a0_runPiece, .int r22.2.2.1, .ref a0_alike, .ref a0_stood])), (a0_all, .inl (D.2 1, 5228, .inl g0_all)), (a0_turnWord, .inl (D.2 1, 320, .inl g0_turnWord)), (a0_turnFrom, .inl (D.2 1, 320, .inl g0_turnFrom)), (a0_pieceSign, .inl (D.2 1, 40, .inl r22.2.2.2.1)), (a0_pieceFrom, .inl (D.2 1, 14, .inl r22.2.2.2.2.1)), (a0_runFrom, .inl (D.2 1, 40, .inl r22.2.2.2.2.2.1)), (a0_runLong, .inl (D.2 1, 40, .inl r22.2.2.2.2.2.2.1)), (a0_runPiece, .inl (D.2 1, 40, .inl r22.2.2.2.2.2.2.2)), (a0_alike, .inl (D.2 1, 128, .inl g0_alike))]) ⟨hx, hb, hml, hown, hts⟩ (mX12_longest l D a0 a0_all a0_tape a0_isImage a0_turnWord a0_turnFrom a0_pieceSign a0_pieceFrom a0_runFrom a0_runLong a0_runPiece a0_alike a0_stood H.size v0_taped v0_faultKind v0_faultPlace v0_undos v0_turns r22.1 r22.2.1 r22.2.2.1 r22.2.2.2.2.2.2.1 N r23 hr23) (cwV 0 hts gX12_count_X12_longest rfl rfl rfl (by decide +kernel) ⟨Nat.le_of_ble_eq_true rfl, Nat.le_of_ble_eq_true rfl⟩) hK hP hD hS hA [0, 7] [1, 2, 3, 4, 5, 6, 8, 9] [8, 0, 1, 2, 3, 4, 5, 9, 6, 7] rfl (by decide) rfl (by decide) (by decide) rfl (by decide) rfl rfl rfl hl.1 rfl (Nat.le_of_ble_eq_true rfl) dX12_count_168 ⟨Nat.zero_le _, Nat.zero_le _⟩ (fun H locs hP hD hS => ?_)
      have he := Option.some.inj hf
      rw [hQ]
      exact W.iret (v := r23) hx hb hr (fun t ht hW => by rw [← he]; exact ⟨⟨r23, (), rfl, rfl, by rw [ht]; exact hP, hD⟩, hS.F ht⟩) hS.2.2 dX12_count_171
    replace hf := im c_21 hf
    by_cases c_24 : p1 = 9
    · replace hf := ip c_24 hf
      refine lv_tableIn (tgt := 172) hx hb dX12_count_1 (by rw [c_24]; decide) (by rw [c_24]; decide) (off := 171) (by rw [c_24]; rfl) (by decide) ?_
      refine lv_aload_n hx hb dX12_count_172 rfl (lv_at hl 0 rfl) ?_
      obtain ⟨r25, hr25, hf⟩ := bd hf
      refine zVv (As := []) (rest := []) (ci := 9) (q0 := 0) (wn := [(a0, .inr (9, [.ref a0_all, .ref a0_tape, .ref a0_isImage, .int v0_taped, .int v0_faultKind, .int v0_faultPlace, .int v0_undos, .ref a0_turnWord, .ref a0_turnFrom, .int r25.1, .ref a0_pieceSign, .ref a0_pieceFrom, .int r25.2.1, .int r25.2.2.1, .ref a0_runFrom, .ref a0_runLong, .ref a0_runPiece, .int r25.2.2.2.1, .ref a0_alike, .ref a0_stood])), (a0_all, .inl (D.2 1, 5228, .inl g0_all)), (a0_turnWord, .inl (D.2 1, 320, .inl r25.2.2.2.2.1)), (a0_turnFrom, .inl (D.2 1, 320, .inl r25.2.2.2.2.2.1)), (a0_pieceSign, .inl (D.2 1, 40, .inl r25.2.2.2.2.2.2.1)), (a0_pieceFrom, .inl (D.2 1, 14, .inl r25.2.2.2.2.2.2.2.1)), (a0_runFrom, .inl (D.2 1, 40, .inl r25.2.2.2.2.2.2.2.2.1)), (a0_runLong, .inl (D.2 1, 40, .inl r25.2.2.2.2.2.2.2.2.2.1)), (a0_runPiece, .inl (D.2 1, 40, .inl r25.2.2.2.2.2.2.2.2.2.2)), (a0_alike, .inl (D.2 1, 128, .inl g0_alike))]) ⟨hx, hb, hml, hown, hts⟩ (mX12_laysAll l D a0 a0_all a0_tape a0_isImage a0_turnWord a0_turnFrom a0_pieceSign a0_pieceFrom a0_runFrom a0_runLong a0_runPiece a0_alike a0_stood H.size v0_taped v0_faultKind v0_faultPlace v0_undos v0_turns v0_pieces v0_signs v0_runs g0_all g0_turnWord g0_turnFrom g0_pieceSign g0_pieceFrom g0_runFrom g0_runLong g0_runPiece N r25 hr25) (cwV 0 hts gX12_count_X12_laysAll rfl rfl rfl (by decide +kernel) ⟨Nat.le_of_ble_eq_true rfl, Nat.le_of_ble_eq_true rfl⟩) hK hP hD hS hA [0, 1, 2, 3, 4, 5, 6, 7, 8] [9] [1, 2, 3, 4, 5, 6, 7, 8, 9, 0] rfl (by decide) rfl (by decide) (by decide) rfl (by decide) rfl rfl rfl hl.1 rfl (Nat.le_of_ble_eq_true rfl) dX12_count_173 ⟨Nat.zero_le _, Nat.zero_le _⟩ (fun H locs hP hD hS => ?_)
      refine lv_aload_n hx hb dX12_count_176 rfl (lv_at hl 0 rfl) ?_
      obtain ⟨r26, hr26, hf⟩ := bd hf
      refine zVi (As := []) (rest := []) (ci := 9) (q0 := 0) (wn := [(a0, .inr (9, [.ref a0_all, .ref a0_tape, .ref a0_isImage, .int v0_taped, .int v0_faultKind, .int v0_faultPlace, .int v0_undos, .ref a0_turnWord, .ref a0_turnFrom, .int r25.1, .ref a0_pieceSign, .ref a0_pieceFrom, .int r25.2.1, .int r25.2.2.1, .ref a0_runFrom, .ref a0_runLong, .ref a0_runPiece, .int r25.2.2.2.1, .ref a0_alike, .ref a0_stood])), (a0_all, .inl (D.2 1, 5228, .inl g0_all)), (a0_turnWord, .inl (D.2 1, 320, .inl r25.2.2.2.2.1)), (a0_turnFrom, .inl (D.2 1, 320, .inl r25.2.2.2.2.2.1)), (a0_pieceSign, .inl (D.2 1, 40, .inl r25.2.2.2.2.2.2.1)), (a0_pieceFrom, .inl (D.2 1, 14, .inl r25.2.2.2.2.2.2.2.1)), (a0_runFrom, .inl (D.2 1, 40, .inl r25.2.2.2.2.2.2.2.2.1)), (a0_runLong, .inl (D.2 1, 40, .inl r25.2.2.2.2.2.2.2.2.2.1)), (a0_runPiece, .inl (D.2 1, 40, .inl r25.2.2.2.2.2.2.2.2.2.2)), (a0_alike, .inl (D.2 1, 128, .inl g0_alike))]) ⟨hx, hb, hml, hown, hts⟩ (mX12_narrowest l D a0 a0_all a0_tape a0_isImage a0_turnWord a0_turnFrom a0_pieceSign a0_pieceFrom a0_runFrom a0_runLong a0_runPiece a0_alike a0_stood H.size v0_taped v0_faultKind v0_faultPlace v0_undos r25.1 r25.2.1 r25.2.2.1 r25.2.2.2.1 g0_all r25.2.2.2.2.1 r25.2.2.2.2.2.1 r25.2.2.2.2.2.2.1 r25.2.2.2.2.2.2.2.2.1 r25.2.2.2.2.2.2.2.2.2.1 N r26 hr26) (cwV 0 hts gX12_count_X12_narrowest rfl rfl rfl (by decide +kernel) ⟨Nat.le_of_ble_eq_true rfl, Nat.le_of_ble_eq_true rfl⟩) hK hP hD hS hA [0, 1, 2, 3, 4, 6, 7] [5, 8, 9] [3, 4, 5, 6, 7, 0, 8, 9, 1, 2] rfl (by decide) rfl (by decide) (by decide) rfl (by decide) rfl rfl rfl hl.1 rfl (Nat.le_of_ble_eq_true rfl) dX12_count_177 ⟨Nat.zero_le _, Nat.zero_le _⟩ (fun H locs hP hD hS => ?_)
      have he := Option.some.inj hf
      rw [hQ]
      exact W.iret (v := r26) hx hb hr (fun t ht hW => by rw [← he]; exact ⟨⟨r26, (), rfl, rfl, by rw [ht]; exact hP, hD⟩, hS.F ht⟩) hS.2.2 dX12_count_180
    replace hf := im c_24 hf
    by_cases c_27 : p1 = 10
    · replace hf := ip c_27 hf
      refine lv_tableIn (tgt := 181) hx hb dX12_count_1 (by rw [c_27]; decide) (by rw [c_27]; decide) (off := 180) (by rw [c_27]; rfl) (by decide) ?_
      refine lv_aload_n hx hb dX12_count_181 rfl (lv_at hl 0 rfl) ?_
      obtain ⟨r28, hr28, hf⟩ := bd hf
      refine zVi (As := []) (rest := []) (ci := 9) (q0 := 0) (wn := [(a0, .inr (9, [.ref a0_all, .ref a0_tape, .ref a0_isImage, .int v0_taped, .int v0_faultKind, .int v0_faultPlace, .int v0_undos, .ref a0_turnWord, .ref a0_turnFrom, .int r28.2.1, .ref a0_pieceSign, .ref a0_pieceFrom, .int r28.2.2.1, .int r28.2.2.2.1, .ref a0_runFrom, .ref a0_runLong, .ref a0_runPiece, .int r28.2.2.2.2.1, .ref a0_alike, .ref a0_stood])), (a0_all, .inl (D.2 1, 5228, .inl g0_all)), (a0_turnWord, .inl (D.2 1, 320, .inl r28.2.2.2.2.2.1)), (a0_turnFrom, .inl (D.2 1, 320, .inl r28.2.2.2.2.2.2.1)), (a0_pieceSign, .inl (D.2 1, 40, .inl r28.2.2.2.2.2.2.2.1)), (a0_pieceFrom, .inl (D.2 1, 14, .inl r28.2.2.2.2.2.2.2.2.1)), (a0_runFrom, .inl (D.2 1, 40, .inl r28.2.2.2.2.2.2.2.2.2.1)), (a0_runLong, .inl (D.2 1, 40, .inl r28.2.2.2.2.2.2.2.2.2.2.1)), (a0_runPiece, .inl (D.2 1, 40, .inl r28.2.2.2.2.2.2.2.2.2.2.2)), (a0_alike, .inl (D.2 1, 128, .inl g0_alike))]) ⟨hx, hb, hml, hown, hts⟩ (mX12_sharedMany l D a0 a0_all a0_tape a0_isImage a0_turnWord a0_turnFrom a0_pieceSign a0_pieceFrom a0_runFrom a0_runLong a0_runPiece a0_alike a0_stood H.size v0_taped v0_faultKind v0_faultPlace v0_undos v0_turns v0_pieces v0_signs v0_runs g0_all g0_turnWord g0_turnFrom g0_pieceSign g0_pieceFrom g0_runFrom g0_runLong g0_runPiece N r28 hr28) (cwV 0 hts gX12_count_X12_sharedMany rfl rfl rfl (by decide +kernel) ⟨Nat.le_of_ble_eq_true rfl, Nat.le_of_ble_eq_true rfl⟩) hK hP hD hS hA [0, 1, 2, 3, 4, 5, 6, 7, 8] [9] [1, 2, 3, 4, 5, 6, 7, 8, 9, 0] rfl (by decide) rfl (by decide) (by decide) rfl (by decide) rfl rfl rfl hl.1 rfl (Nat.le_of_ble_eq_true rfl) dX12_count_182 ⟨Nat.zero_le _, Nat.zero_le _⟩ (fun H locs hP hD hS => ?_)
      have he := Option.some.inj hf
      rw [hQ]
      exact W.iret (v := r28.1) hx hb hr (fun t ht hW => by rw [← he]; exact ⟨⟨r28.1, (), rfl, rfl, by rw [ht]; exact hP, hD⟩, hS.F ht⟩) hS.2.2 dX12_count_185
    replace hf := im c_27 hf
    by_cases c_29 : p1 = 11
    · replace hf := ip c_29 hf
      refine lv_tableIn (tgt := 186) hx hb dX12_count_1 (by rw [c_29]; decide) (by rw [c_29]; decide) (off := 185) (by rw [c_29]; rfl) (by decide) ?_
      refine lv_aload_n hx hb dX12_count_186 rfl (lv_at hl 0 rfl) ?_
      obtain ⟨r30, hr30, hf⟩ := bd hf
      refine zVi (As := []) (rest := []) (ci := 9) (q0 := 0) (wn := [(a0, .inr (9, [.ref a0_all, .ref a0_tape, .ref a0_isImage, .int v0_taped, .int v0_faultKind, .int v0_faultPlace, .int v0_undos, .ref a0_turnWord, .ref a0_turnFrom, .int v0_turns, .ref a0_pieceSign, .ref a0_pieceFrom, .int v0_pieces, .int v0_signs, .ref a0_runFrom, .ref a0_runLong, .ref a0_runPiece, .int v0_runs, .ref a0_alike, .ref a0_stood])), (a0_all, .inl (D.2 1, 5228, .inl g0_all)), (a0_turnWord, .inl (D.2 1, 320, .inl g0_turnWord)), (a0_turnFrom, .inl (D.2 1, 320, .inl g0_turnFrom)), (a0_pieceSign, .inl (D.2 1, 40, .inl g0_pieceSign)), (a0_pieceFrom, .inl (D.2 1, 14, .inl g0_pieceFrom)), (a0_runFrom, .inl (D.2 1, 40, .inl g0_runFrom)), (a0_runLong, .inl (D.2 1, 40, .inl g0_runLong)), (a0_runPiece, .inl (D.2 1, 40, .inl g0_runPiece)), (a0_alike, .inl (D.2 1, 128, .inl g0_alike))]) ⟨hx, hb, hml, hown, hts⟩ (mX12_stem l D a0 a0_all a0_tape a0_isImage a0_turnWord a0_turnFrom a0_pieceSign a0_pieceFrom a0_runFrom a0_runLong a0_runPiece a0_alike a0_stood H.size v0_taped v0_faultKind v0_faultPlace v0_undos v0_turns v0_pieces v0_signs v0_runs g0_all N r30 hr30) (cwV 0 hts gX12_count_X12_stem rfl rfl rfl (by decide +kernel) ⟨Nat.le_of_ble_eq_true rfl, Nat.le_of_ble_eq_true rfl⟩) hK hP hD hS hA [0, 1] [2, 3, 4, 5, 6, 7, 8, 9] [8, 9, 0, 1, 2, 3, 4, 5, 6, 7] rfl (by decide) rfl (by decide) (by decide) rfl (by decide) rfl rfl rfl hl.1 rfl (Nat.le_of_ble_eq_true rfl) dX12_count_187 ⟨Nat.zero_le _, Nat.zero_le _⟩ (fun H locs hP hD hS => ?_)
      have he := Option.some.inj hf
      rw [hQ]
      exact W.iret (v := r30) hx hb hr (fun t ht hW => by rw [← he]; exact ⟨⟨r30, (), rfl, rfl, by rw [ht]; exact hP, hD⟩, hS.F ht⟩) hS.2.2 dX12_count_190
    replace hf := im c_29 hf
    by_cases c_31 : p1 = 12
    · replace hf := ip c_31 hf
      refine lv_tableIn (tgt := 191) hx hb dX12_count_1 (by rw [c_31]; decide) (by rw [c_31]; decide) (off := 190) (by rw [c_31]; rfl) (by decide) ?_
      refine lv_aload_n hx hb dX12_count_191 rfl (lv_at hl 0 rfl) ?_
      obtain ⟨r32, hr32, hf⟩ := bd hf
      refine zVi (As := []) (rest := []) (ci := 9) (q0 := 0) (wn := [(a0, .inr (9, [.ref a0_all, .ref a0_tape, .ref a0_isImage, .int v0_taped, .int v0_faultKind, .int v0_faultPlace, .int v0_undos, .ref a0_turnWord, .ref a0_turnFrom, .int v0_turns, .ref a0_pieceSign, .ref a0_pieceFrom, .int v0_pieces, .int v0_signs, .ref a0_runFrom, .ref a0_runLong, .ref a0_runPiece, .int v0_runs, .ref a0_alike, .ref a0_stood])), (a0_all, .inl (D.2 1, 5228, .inl g0_all)), (a0_turnWord, .inl (D.2 1, 320, .inl g0_turnWord)), (a0_turnFrom, .inl (D.2 1, 320, .inl g0_turnFrom)), (a0_pieceSign, .inl (D.2 1, 40, .inl g0_pieceSign)), (a0_pieceFrom, .inl (D.2 1, 14, .inl g0_pieceFrom)), (a0_runFrom, .inl (D.2 1, 40, .inl g0_runFrom)), (a0_runLong, .inl (D.2 1, 40, .inl g0_runLong)), (a0_runPiece, .inl (D.2 1, 40, .inl g0_runPiece)), (a0_alike, .inl (D.2 1, 128, .inl r32.2))]) ⟨hx, hb, hml, hown, hts⟩ (mX12_asks l D a0 a0_all a0_tape a0_isImage a0_turnWord a0_turnFrom a0_pieceSign a0_pieceFrom a0_runFrom a0_runLong a0_runPiece a0_alike a0_stood H.size v0_taped v0_faultKind v0_faultPlace v0_undos v0_turns v0_pieces v0_signs v0_runs g0_all g0_alike N r32 hr32) (cwV 0 hts gX12_count_X12_asks rfl rfl rfl (by decide +kernel) ⟨Nat.le_of_ble_eq_true rfl, Nat.le_of_ble_eq_true rfl⟩) hK hP hD hS hA [0, 1, 9] [2, 3, 4, 5, 6, 7, 8] [7, 8, 0, 1, 2, 3, 4, 5, 6, 9] rfl (by decide) rfl (by decide) (by decide) rfl (by decide) rfl rfl rfl hl.1 rfl (Nat.le_of_ble_eq_true rfl) dX12_count_192 ⟨Nat.zero_le _, Nat.zero_le _⟩ (fun H locs hP hD hS => ?_)
      have he := Option.some.inj hf
      rw [hQ]
      exact W.iret (v := r32.1) hx hb hr (fun t ht hW => by rw [← he]; exact ⟨⟨r32.1, (), rfl, rfl, by rw [ht]; exact hP, hD⟩, hS.F ht⟩) hS.2.2 dX12_count_195
    replace hf := im c_31 hf
    by_cases c_33 : p1 = 13
    · replace hf := ip c_33 hf
      refine lv_tableIn (tgt := 196) hx hb dX12_count_1 (by rw [c_33]; decide) (by rw [c_33]; decide) (off := 195) (by rw [c_33]; rfl) (by decide) ?_
      refine lv_aload_n hx hb dX12_count_196 rfl (lv_at hl 0 rfl) ?_
      refine va_get (D := D.1) (ci := 9) (v := .int v0_undos) (C := RX12) (T := TX12) (N := 20) hx hb hts hwX12 hown hK.1 hP 0 rfl rfl 6 (by decide) l177 (fun _ h9 => h9) rfl dX12_count_197 ?_
      have he := Option.some.inj hf
      rw [hQ]
      exact W.iret (v := v0_undos) hx hb hr (fun t ht hW => by rw [← he]; exact ⟨⟨v0_undos, (), rfl, rfl, by rw [ht]; exact hP, hD⟩, hS.F ht⟩) hS.2.2 dX12_count_200
    replace hf := im c_33 hf
    by_cases c_34 : p1 = 14
    · replace hf := ip c_34 hf
      refine lv_tableIn (tgt := 201) hx hb dX12_count_1 (by rw [c_34]; decide) (by rw [c_34]; decide) (off := 200) (by rw [c_34]; rfl) (by decide) ?_
      refine lv_aload_n hx hb dX12_count_201 rfl (lv_at hl 0 rfl) ?_
      refine va_get (D := D.1) (ci := 9) (v := .int v0_taped) (C := RX12) (T := TX12) (N := 20) hx hb hts hwX12 hown hK.1 hP 0 rfl rfl 3 (by decide) l180 (fun _ h9 => h9) rfl dX12_count_202 ?_
      have he := Option.some.inj hf
      rw [hQ]
      exact W.iret (v := v0_taped) hx hb hr (fun t ht hW => by rw [← he]; exact ⟨⟨v0_taped, (), rfl, rfl, by rw [ht]; exact hP, hD⟩, hS.F ht⟩) hS.2.2 dX12_count_205
    replace hf := im c_34 hf
    by_cases c_35 : p1 = 15
    · replace hf := ip c_35 hf
      refine lv_tableIn (tgt := 206) hx hb dX12_count_1 (by rw [c_35]; decide) (by rw [c_35]; decide) (off := 205) (by rw [c_35]; rfl) (by decide) ?_
      refine lv_aload_n hx hb dX12_count_206 rfl (lv_at hl 0 rfl) ?_
      obtain ⟨r36, hr36, hf⟩ := bd hf
      refine zVi (As := []) (rest := []) (ci := 9) (q0 := 0) (wn := [(a0, .inr (9, [.ref a0_all, .ref a0_tape, .ref a0_isImage, .int v0_taped, .int v0_faultKind, .int v0_faultPlace, .int v0_undos, .ref a0_turnWord, .ref a0_turnFrom, .int v0_turns, .ref a0_pieceSign, .ref a0_pieceFrom, .int v0_pieces, .int v0_signs, .ref a0_runFrom, .ref a0_runLong, .ref a0_runPiece, .int v0_runs, .ref a0_alike, .ref a0_stood])), (a0_all, .inl (D.2 1, 5228, .inl g0_all)), (a0_turnWord, .inl (D.2 1, 320, .inl g0_turnWord)), (a0_turnFrom, .inl (D.2 1, 320, .inl g0_turnFrom)), (a0_pieceSign, .inl (D.2 1, 40, .inl g0_pieceSign)), (a0_pieceFrom, .inl (D.2 1, 14, .inl g0_pieceFrom)), (a0_runFrom, .inl (D.2 1, 40, .inl g0_runFrom)), (a0_runLong, .inl (D.2 1, 40, .inl g0_runLong)), (a0_runPiece, .inl (D.2 1, 40, .inl g0_runPiece)), (a0_alike, .inl (D.2 1, 128, .inl g0_alike))]) ⟨hx, hb, hml, hown, hts⟩ (mX12_letters l D a0 a0_all a0_tape a0_isImage a0_turnWord a0_turnFrom a0_pieceSign a0_pieceFrom a0_runFrom a0_runLong a0_runPiece a0_alike a0_stood H.size v0_taped v0_faultKind v0_faultPlace v0_undos v0_turns v0_pieces v0_signs v0_runs g0_all N r36 hr36) (cwV 0 hts gX12_count_X12_letters rfl rfl rfl (by decide +kernel) ⟨Nat.le_of_ble_eq_true rfl, Nat.le_of_ble_eq_true rfl⟩) hK hP hD hS hA [0, 1] [2, 3, 4, 5, 6, 7, 8, 9] [8, 9, 0, 1, 2, 3, 4, 5, 6, 7] rfl (by decide) rfl (by decide) (by decide) rfl (by decide) rfl rfl rfl hl.1 rfl (Nat.le_of_ble_eq_true rfl) dX12_count_207 ⟨Nat.zero_le _, Nat.zero_le _⟩ (fun H locs hP hD hS => ?_)
      have he := Option.some.inj hf
      rw [hQ]
      exact W.iret (v := r36) hx hb hr (fun t ht hW => by rw [← he]; exact ⟨⟨r36, (), rfl, rfl, by rw [ht]; exact hP, hD⟩, hS.F ht⟩) hS.2.2 dX12_count_210
    replace hf := im c_35 hf
    by_cases c_37 : p1 = 16
    · replace hf := ip c_37 hf
      refine lv_tableIn (tgt := 211) hx hb dX12_count_1 (by rw [c_37]; decide) (by rw [c_37]; decide) (off := 210) (by rw [c_37]; rfl) (by decide) ?_
      refine lv_aload_n hx hb dX12_count_211 rfl (lv_at hl 0 rfl) ?_
      obtain ⟨r38, hr38, hf⟩ := bd hf
      refine zVi (As := []) (rest := []) (ci := 9) (q0 := 0) (wn := [(a0, .inr (9, [.ref a0_all, .ref a0_tape, .ref a0_isImage, .int v0_taped, .int v0_faultKind, .int v0_faultPlace, .int v0_undos, .ref a0_turnWord, .ref a0_turnFrom, .int v0_turns, .ref a0_pieceSign, .ref a0_pieceFrom, .int v0_pieces, .int v0_signs, .ref a0_runFrom, .ref a0_runLong, .ref a0_runPiece, .int v0_runs, .ref a0_alike, .ref a0_stood])), (a0_all, .inl (D.2 1, 5228, .inl g0_all)), (a0_turnWord, .inl (D.2 1, 320, .inl g0_turnWord)), (a0_turnFrom, .inl (D.2 1, 320, .inl g0_turnFrom)), (a0_pieceSign, .inl (D.2 1, 40, .inl g0_pieceSign)), (a0_pieceFrom, .inl (D.2 1, 14, .inl g0_pieceFrom)), (a0_runFrom, .inl (D.2 1, 40, .inl g0_runFrom)), (a0_runLong, .inl (D.2 1, 40, .inl g0_runLong)), (a0_runPiece, .inl (D.2 1, 40, .inl g0_runPiece)), (a0_alike, .inl (D.2 1, 128, .inl g0_alike))]) ⟨hx, hb, hml, hown, hts⟩ (mX12_firstAlone l D a0 a0_all a0_tape a0_isImage a0_turnWord a0_turnFrom a0_pieceSign a0_pieceFrom a0_runFrom a0_runLong a0_runPiece a0_alike a0_stood H.size v0_taped v0_faultKind v0_faultPlace v0_undos v0_turns v0_pieces v0_signs v0_runs g0_all N r38 hr38) (cwV 0 hts gX12_count_X12_firstAlone rfl rfl rfl (by decide +kernel) ⟨Nat.le_of_ble_eq_true rfl, Nat.le_of_ble_eq_true rfl⟩) hK hP hD hS hA [0, 1] [2, 3, 4, 5, 6, 7, 8, 9] [8, 9, 0, 1, 2, 3, 4, 5, 6, 7] rfl (by decide) rfl (by decide) (by decide) rfl (by decide) rfl rfl rfl hl.1 rfl (Nat.le_of_ble_eq_true rfl) dX12_count_212 ⟨Nat.zero_le _, Nat.zero_le _⟩ (fun H locs hP hD hS => ?_)
      have he := Option.some.inj hf
      rw [hQ]
      exact W.iret (v := r38) hx hb hr (fun t ht hW => by rw [← he]; exact ⟨⟨r38, (), rfl, rfl, by rw [ht]; exact hP, hD⟩, hS.F ht⟩) hS.2.2 dX12_count_215
    replace hf := im c_37 hf
    cases hf
def fX12_word (N : Nat) (g0_all : Nat → Int32) (p1 : Int32) (p2 : Int32) (p3 : Int32) : Option (Int32 × (Nat → Int32)) :=
  Option.bind (fX12_from N g0_all p2) fun r1 =>
  if r1.1 < 0 ∨ 5228 ≤ (r1.1).toNatClampNeg then none else
  Option.bind (fX12_isIn p1 (0 : Int32) ((r1.2 (r1.1).toNatClampNeg) - (1 : Int32))) fun r3 =>
  if r3 = (0 : Int32) then
    some ((-1 : Int32), r1.2)
  else
    Option.bind (fX12_wordAt r1.1 p1) fun r6 =>
    if p3 = (0 : Int32) then
      if r6 < 0 ∨ 5228 ≤ (r6).toNatClampNeg then none else
      some ((r1.2 (r6).toNatClampNeg), r1.2)
    else
      if p3 = (10 : Int32) then
        Option.bind (fX12_meets N r1.2 (430 : Int32) r6) fun r14 =>
        if r14 = (0 : Int32) then
          some ((0 : Int32), r1.2)
        else
          some ((1 : Int32), r1.2)
      else
        if r6 < 0 ∨ 5228 ≤ (r6).toNatClampNeg then none else
        Option.bind (fX12_isIn p3 (1 : Int32) (r1.2 (r6).toNatClampNeg)) fun r10 =>
        if r10 = (0 : Int32) then
          some ((-1 : Int32), r1.2)
        else
          if (r6 + p3) < 0 ∨ 5228 ≤ ((r6 + p3)).toNatClampNeg then none else
          some ((r1.2 ((r6 + p3)).toNatClampNeg), r1.2)
set_option maxHeartbeats 4000000 in
set_option maxRecDepth 100000 in
theorem mX12_word (l : Launch) (D : zG) (a0 : Nat) (a0_all : Nat) (a0_tape : Nat) (a0_isImage : Nat) (a0_turnWord : Nat) (a0_turnFrom : Nat) (a0_pieceSign : Nat) (a0_pieceFrom : Nat) (a0_runFrom : Nat) (a0_runLong : Nat) (a0_runPiece : Nat) (a0_alike : Nat) (a0_stood : Nat) (sz : Nat)  (v0_taped : Int32) (v0_faultKind : Int32) (v0_faultPlace : Int32) (v0_undos : Int32) (v0_turns : Int32) (v0_pieces : Int32) (v0_signs : Int32) (v0_runs : Int32) (g0_all : Nat → Int32) (p1 : Int32) (p2 : Int32) (p3 : Int32) (N : Nat) (res : Int32 × (Nat → Int32)) (hf : fX12_word N g0_all p1 p2 p3 = some res) : Met l yX12_word wsX12_word ({ frames := 4, cells := 0, slots := 0, locals := 91 } : Room) (va_Pc [.ref a0, .int p1, .int p2, .int p3] (zW D sz [(a0, .inr (9, [.ref a0_all, .ref a0_tape, .ref a0_isImage, .int v0_taped, .int v0_faultKind, .int v0_faultPlace, .int v0_undos, .ref a0_turnWord, .ref a0_turnFrom, .int v0_turns, .ref a0_pieceSign, .ref a0_pieceFrom, .int v0_pieces, .int v0_signs, .ref a0_runFrom, .ref a0_runLong, .ref a0_runPiece, .int v0_runs, .ref a0_alike, .ref a0_stood])), (a0_all, .inl (D.2 1, 5228, .inl g0_all))])) (va_Qi (fun r (_ : Unit) => r = res.1) (fun _ => zB D (va_A [(a0, .inr (9, [.ref a0_all, .ref a0_tape, .ref a0_isImage, .int v0_taped, .int v0_faultKind, .int v0_faultPlace, .int v0_undos, .ref a0_turnWord, .ref a0_turnFrom, .int v0_turns, .ref a0_pieceSign, .ref a0_pieceFrom, .int v0_pieces, .int v0_signs, .ref a0_runFrom, .ref a0_runLong, .ref a0_runPiece, .int v0_runs, .ref a0_alike, .ref a0_stood])), (a0_all, .inl (D.2 1, 5228, .inl g0_all))] sz) [(a0, .inr (9, [.ref a0_all, .ref a0_tape, .ref a0_isImage, .int v0_taped, .int v0_faultKind, .int v0_faultPlace, .int v0_undos, .ref a0_turnWord, .ref a0_turnFrom, .int v0_turns, .ref a0_pieceSign, .ref a0_pieceFrom, .int v0_pieces, .int v0_signs, .ref a0_runFrom, .ref a0_runLong, .ref a0_runPiece, .int v0_runs, .ref a0_alike, .ref a0_stood])), (a0_all, .inl (D.2 1, 5228, .inl res.2))]) (va_A [(a0, .inr (9, [.ref a0_all, .ref a0_tape, .ref a0_isImage, .int v0_taped, .int v0_faultKind, .int v0_faultPlace, .int v0_undos, .ref a0_turnWord, .ref a0_turnFrom, .int v0_turns, .ref a0_pieceSign, .ref a0_pieceFrom, .int v0_pieces, .int v0_signs, .ref a0_runFrom, .ref a0_runLong, .ref a0_runPiece, .int v0_runs, .ref a0_alike, .ref a0_stood])), (a0_all, .inl (D.2 1, 5228, .inl g0_all))] sz)) 0 0 (va_A [(a0, .inr (9, [.ref a0_all, .ref a0_tape, .ref a0_isImage, .int v0_taped, .int v0_faultKind, .int v0_faultPlace, .int v0_undos, .ref a0_turnWord, .ref a0_turnFrom, .int v0_turns, .ref a0_pieceSign, .ref a0_pieceFrom, .int v0_pieces, .int v0_signs, .ref a0_runFrom, .ref a0_runLong, .ref a0_runPiece, .int v0_runs, .ref a0_alike, .ref a0_stood])), (a0_all, .inl (D.2 1, 5228, .inl g0_all))] sz) := by
  refine Met.ofW (cc := cX12_word) (maxL := 6) (ret := (some .int)) (by decide) rfl ?_
  intro p e s m args below meth c s₁ B hml hv
  obtain ⟨rfl, hsz, hP, hK, hD0⟩ := hv
  have hx := B.exec
  have hb := B.bytes
  have hr := B.returns
  have hts := atoms_spec (ws := wsX12_word) B.pre
  have hown : s.vm.findClass RX12 = some m.cls := findClass_of_methodNamed B.named
  have hlocks := B.notSynchronized
  subst hsz
  have hD := hD0.self (sz := s.heap.size)
  generalize hAe : va_A [(a0, .inr (9, [.ref a0_all, .ref a0_tape, .ref a0_isImage, .int v0_taped, .int v0_faultKind, .int v0_faultPlace, .int v0_undos, .ref a0_turnWord, .ref a0_turnFrom, .int v0_turns, .ref a0_pieceSign, .ref a0_pieceFrom, .int v0_pieces, .int v0_signs, .ref a0_runFrom, .ref a0_runLong, .ref a0_runPiece, .int v0_runs, .ref a0_alike, .ref a0_stood])), (a0_all, .inl (D.2 1, 5228, .inl g0_all))] s.heap.size = A at hD ⊢
  have hA : ∀ q : Nat, s.heap.size ≤ q → A q := fun q h => by rw [← hAe]; exact Or.inr h
  have l7 := zat hts 1 (w := .fieldLink RX12 7 "TurnedWordsModel" "all" "[I") rfl
  have hwX12 : ∀ w ∈ u_ws RX12 TX12 20, w ∈ wsX12_word := fun w h => List.mem_cons_of_mem _ (List.mem_append_right _ h)
  have hl := lv_entry ([.ref a0, .int p1, .int p2, .int p3]) (n := 6) (Nat.le_of_ble_eq_true rfl)
  rw [lg_entry_eq]
  generalize (lg_sl ([.ref a0, .int p1, .int p2, .int p3]) ++ List.replicate (6 - (lg_sl ([.ref a0, .int p1, .int p2, .int p3])).length) Slot.unset).toArray = ls at hl ⊢
  have hl : lv_has ls 6 [(0, .ref a0), (1, .int p1), (2, .int p2), (3, .int p3)] := hl
  refine zStart (A := A) hP (fun Q0 H locs hQ hP hS => ?_)
  unfold fX12_word at hf
  refine lv_aload_n hx hb dX12_word_0 rfl (lv_at hl 0 rfl) ?_
  refine lv_iload_n hx hb dX12_word_1 rfl (lv_at hl 2 rfl) ?_
  obtain ⟨r1, hr1, hf⟩ := bd hf
  refine zVi (As := [.int p2]) (rest := []) (ci := 9) (q0 := 0) (wn := [(a0, .inr (9, [.ref a0_all, .ref a0_tape, .ref a0_isImage, .int v0_taped, .int v0_faultKind, .int v0_faultPlace, .int v0_undos, .ref a0_turnWord, .ref a0_turnFrom, .int v0_turns, .ref a0_pieceSign, .ref a0_pieceFrom, .int v0_pieces, .int v0_signs, .ref a0_runFrom, .ref a0_runLong, .ref a0_runPiece, .int v0_runs, .ref a0_alike, .ref a0_stood])), (a0_all, .inl (D.2 1, 5228, .inl r1.2))]) ⟨hx, hb, hml, hown, hts⟩ (mX12_from l D a0 a0_all a0_tape a0_isImage a0_turnWord a0_turnFrom a0_pieceSign a0_pieceFrom a0_runFrom a0_runLong a0_runPiece a0_alike a0_stood H.size v0_taped v0_faultKind v0_faultPlace v0_undos v0_turns v0_pieces v0_signs v0_runs g0_all p2 N r1 hr1) (cwV 1 hts gX12_word_X12_from rfl rfl rfl (by decide +kernel) ⟨Nat.le_of_ble_eq_true rfl, Nat.le_of_ble_eq_true rfl⟩) hK hP hD hS hA [0, 1] [] [0, 1] rfl (by decide) rfl (by decide) (by decide) rfl (by decide) rfl rfl rfl hl.1 rfl (Nat.le_of_ble_eq_true rfl) dX12_word_2 ⟨Nat.zero_le _, Nat.zero_le _⟩ (fun H locs hP hD hS => ?_)
  refine lv_istore (lv' := [(4, .int r1.1), (0, .ref a0), (1, .int p1), (2, .int p2), (3, .int p3)]) hx hb dX12_word_5 hl (by decide) rfl (fun ls hl => ?_)
  refine lv_iload_n hx hb dX12_word_7 rfl (lv_at hl 2 rfl) ?_
  refine lv_iconst (v := 0) hx hb dX12_word_8 (by decide) ?_
  refine lv_aload_n hx hb dX12_word_9 rfl (lv_at hl 1 rfl) ?_
  refine va_get (D := D.1) (ci := 9) (v := .ref a0_all) (C := RX12) (T := TX12) (N := 20) hx hb hts hwX12 hown hK.1 hP 0 rfl rfl 0 (by decide) l7 (fun _ h9 => h9) rfl dX12_word_10 ?_
  refine lv_iload hx hb dX12_word_13 (lv_at hl 0 rfl) ?_
  obtain ⟨h_2, hf⟩ := gd hf
  refine va_iald hx hb hK.1 hP 1 1 rfl rfl h_2 dX12_word_15 ?_
  refine lv_iconst (v := 1) hx hb dX12_word_16 (by decide) ?_
  refine lv_isub hx hb dX12_word_17 ?_
  obtain ⟨r3, hr3, hf⟩ := bd hf
  refine zSz (As := [.int p1, .int (0 : Int32), .int ((r1.2 (r1.1).toNatClampNeg) - (1 : Int32))]) (rest := []) (wn := [(a0, .inr (9, [.ref a0_all, .ref a0_tape, .ref a0_isImage, .int v0_taped, .int v0_faultKind, .int v0_faultPlace, .int v0_undos, .ref a0_turnWord, .ref a0_turnFrom, .int v0_turns, .ref a0_pieceSign, .ref a0_pieceFrom, .int v0_pieces, .int v0_signs, .ref a0_runFrom, .ref a0_runLong, .ref a0_runPiece, .int v0_runs, .ref a0_alike, .ref a0_stood])), (a0_all, .inl (D.2 1, 5228, .inl r1.2))]) ⟨hx, hb, hml, hown, hts⟩ (mX12_isIn l D H.size p1 (0 : Int32) ((r1.2 (r1.1).toNatClampNeg) - (1 : Int32)) r3 hr3) (va_cwS 3 hts gX12_word_X12_isIn rfl rfl rfl (by decide +kernel) ⟨Nat.le_of_ble_eq_true rfl, Nat.le_of_ble_eq_true rfl⟩) hK hP hD hS hA [] [0, 1] [0, 1] rfl (by decide) rfl (by decide) (by decide) rfl (by decide) rfl hl.1 rfl (Nat.le_of_ble_eq_true rfl) dX12_word_18 ⟨Nat.zero_le _, Nat.zero_le _⟩ (fun H locs hb_4 hP hD hS => ?_)
  refine lv_if_ne (tgt := 26) hx hb dX12_word_21 (by decide) (fun c_5 => ?_) (fun c_5 => ?_)
  · replace hf := im c_5 hf
    refine lv_iload hx hb dX12_word_26 (lv_at hl 0 rfl) ?_
    refine lv_iload_n hx hb dX12_word_28 rfl (lv_at hl 2 rfl) ?_
    obtain ⟨r6, hr6, hf⟩ := bd hf
    refine zSi (As := [.int r1.1, .int p1]) (rest := []) (wn := [(a0, .inr (9, [.ref a0_all, .ref a0_tape, .ref a0_isImage, .int v0_taped, .int v0_faultKind, .int v0_faultPlace, .int v0_undos, .ref a0_turnWord, .ref a0_turnFrom, .int v0_turns, .ref a0_pieceSign, .ref a0_pieceFrom, .int v0_pieces, .int v0_signs, .ref a0_runFrom, .ref a0_runLong, .ref a0_runPiece, .int v0_runs, .ref a0_alike, .ref a0_stood])), (a0_all, .inl (D.2 1, 5228, .inl r1.2))]) ⟨hx, hb, hml, hown, hts⟩ (mX12_wordAt l D H.size r1.1 p1 r6 hr6) (va_cwS 2 hts gX12_word_X12_wordAt rfl rfl rfl (by decide +kernel) ⟨Nat.le_of_ble_eq_true rfl, Nat.le_of_ble_eq_true rfl⟩) hK hP hD hS hA [] [0, 1] [0, 1] rfl (by decide) rfl (by decide) (by decide) rfl (by decide) rfl hl.1 rfl (Nat.le_of_ble_eq_true rfl) dX12_word_29 ⟨Nat.zero_le _, Nat.zero_le _⟩ (fun H locs hP hD hS => ?_)
    refine lv_istore (lv' := [(5, .int r6), (4, .int r1.1), (0, .ref a0), (1, .int p1), (2, .int p2), (3, .int p3)]) hx hb dX12_word_32 hl (by decide) rfl (fun ls hl => ?_)
    refine lv_iload_n hx hb dX12_word_34 rfl (lv_at hl 5 rfl) ?_
    refine lv_if_ne (tgt := 46) hx hb dX12_word_35 (by decide) (fun c_7 => ?_) (fun c_7 => ?_)
    · replace hf := im c_7 hf
      refine lv_iload_n hx hb dX12_word_46 rfl (lv_at hl 5 rfl) ?_
      refine lv_bipush (v := 10) hx hb dX12_word_47 (by decide) ?_
      refine lv_icmp_ne (tgt := 72) hx hb dX12_word_49 (by decide) (fun c_8 => ?_) (fun c_8 => ?_)
      · replace hf := im c_8 hf
        refine lv_iload_n hx hb dX12_word_72 rfl (lv_at hl 5 rfl) ?_
        refine lv_iconst (v := 1) hx hb dX12_word_73 (by decide) ?_
        refine lv_aload_n hx hb dX12_word_74 rfl (lv_at hl 2 rfl) ?_
        refine va_get (D := D.1) (ci := 9) (v := .ref a0_all) (C := RX12) (T := TX12) (N := 20) hx hb hts hwX12 hown hK.1 hP 0 rfl rfl 0 (by decide) l7 (fun _ h9 => h9) rfl dX12_word_75 ?_
        refine lv_iload hx hb dX12_word_78 (lv_at hl 0 rfl) ?_
        obtain ⟨h_9, hf⟩ := gd hf
        refine va_iald hx hb hK.1 hP 1 1 rfl rfl h_9 dX12_word_80 ?_
        obtain ⟨r10, hr10, hf⟩ := bd hf
        refine zSz (As := [.int p3, .int (1 : Int32), .int (r1.2 (r6).toNatClampNeg)]) (rest := []) (wn := [(a0, .inr (9, [.ref a0_all, .ref a0_tape, .ref a0_isImage, .int v0_taped, .int v0_faultKind, .int v0_faultPlace, .int v0_undos, .ref a0_turnWord, .ref a0_turnFrom, .int v0_turns, .ref a0_pieceSign, .ref a0_pieceFrom, .int v0_pieces, .int v0_signs, .ref a0_runFrom, .ref a0_runLong, .ref a0_runPiece, .int v0_runs, .ref a0_alike, .ref a0_stood])), (a0_all, .inl (D.2 1, 5228, .inl r1.2))]) ⟨hx, hb, hml, hown, hts⟩ (mX12_isIn l D H.size p3 (1 : Int32) (r1.2 (r6).toNatClampNeg) r10 hr10) (va_cwS 3 hts gX12_word_X12_isIn rfl rfl rfl (by decide +kernel) ⟨Nat.le_of_ble_eq_true rfl, Nat.le_of_ble_eq_true rfl⟩) hK hP hD hS hA [] [0, 1] [0, 1] rfl (by decide) rfl (by decide) (by decide) rfl (by decide) rfl hl.1 rfl (Nat.le_of_ble_eq_true rfl) dX12_word_81 ⟨Nat.zero_le _, Nat.zero_le _⟩ (fun H locs hb_11 hP hD hS => ?_)
        refine lv_if_eq (tgt := 99) hx hb dX12_word_84 (by decide) (fun c_12 => ?_) (fun c_12 => ?_)
        · replace hf := ip c_12 hf
          refine lv_iconst (v := -1) hx hb dX12_word_99 (by decide) ?_
          have he := Option.some.inj hf
          rw [hQ]
          exact W.iret (v := (-1 : Int32)) hx hb hr (fun t ht hW => by rw [← he]; exact ⟨⟨(-1 : Int32), (), rfl, rfl, by rw [ht]; exact hP, hD⟩, hS.F ht⟩) hS.2.2 dX12_word_100
        · replace hf := im c_12 hf
          refine lv_aload_n hx hb dX12_word_87 rfl (lv_at hl 2 rfl) ?_
          refine va_get (D := D.1) (ci := 9) (v := .ref a0_all) (C := RX12) (T := TX12) (N := 20) hx hb hts hwX12 hown hK.1 hP 0 rfl rfl 0 (by decide) l7 (fun _ h9 => h9) rfl dX12_word_88 ?_
          refine lv_iload hx hb dX12_word_91 (lv_at hl 0 rfl) ?_
          refine lv_iload_n hx hb dX12_word_93 rfl (lv_at hl 5 rfl) ?_
          refine lv_iadd hx hb dX12_word_94 ?_
          obtain ⟨h_13, hf⟩ := gd hf
          refine va_iald hx hb hK.1 hP 1 1 rfl rfl h_13 dX12_word_95 ?_
          refine lv_goto (tgt := 100) hx hb dX12_word_96 (by decide) ?_
          have he := Option.some.inj hf
          rw [hQ]
          exact W.iret (v := (r1.2 ((r6 + p3)).toNatClampNeg)) hx hb hr (fun t ht hW => by rw [← he]; exact ⟨⟨(r1.2 ((r6 + p3)).toNatClampNeg), (), rfl, rfl, by rw [ht]; exact hP, hD⟩, hS.F ht⟩) hS.2.2 dX12_word_100
      · replace hf := ip c_8 hf
        refine lv_aload_n hx hb dX12_word_52 rfl (lv_at hl 2 rfl) ?_
        refine lv_sipush (v := 430) hx hb dX12_word_53 (by decide) ?_
        refine lv_iload hx hb dX12_word_56 (lv_at hl 0 rfl) ?_
        obtain ⟨r14, hr14, hf⟩ := bd hf
        refine zVz (As := [.int (430 : Int32), .int r6]) (rest := []) (ci := 9) (q0 := 0) (wn := [(a0, .inr (9, [.ref a0_all, .ref a0_tape, .ref a0_isImage, .int v0_taped, .int v0_faultKind, .int v0_faultPlace, .int v0_undos, .ref a0_turnWord, .ref a0_turnFrom, .int v0_turns, .ref a0_pieceSign, .ref a0_pieceFrom, .int v0_pieces, .int v0_signs, .ref a0_runFrom, .ref a0_runLong, .ref a0_runPiece, .int v0_runs, .ref a0_alike, .ref a0_stood])), (a0_all, .inl (D.2 1, 5228, .inl r1.2))]) ⟨hx, hb, hml, hown, hts⟩ (mX12_meets l D a0 a0_all a0_tape a0_isImage a0_turnWord a0_turnFrom a0_pieceSign a0_pieceFrom a0_runFrom a0_runLong a0_runPiece a0_alike a0_stood H.size v0_taped v0_faultKind v0_faultPlace v0_undos v0_turns v0_pieces v0_signs v0_runs r1.2 (430 : Int32) r6 N r14 hr14) (cwV 2 hts gX12_word_X12_meets rfl rfl rfl (by decide +kernel) ⟨Nat.le_of_ble_eq_true rfl, Nat.le_of_ble_eq_true rfl⟩) hK hP hD hS hA [0, 1] [] [0, 1] rfl (by decide) rfl (by decide) (by decide) rfl (by decide) rfl rfl rfl hl.1 rfl (Nat.le_of_ble_eq_true rfl) dX12_word_58 ⟨Nat.zero_le _, Nat.zero_le _⟩ (fun H locs hb_15 hP hD hS => ?_)
        refine lv_if_eq (tgt := 68) hx hb dX12_word_61 (by decide) (fun c_16 => ?_) (fun c_16 => ?_)
        · replace hf := ip c_16 hf
          refine lv_iconst (v := 0) hx hb dX12_word_68 (by decide) ?_
          refine lv_goto (tgt := 100) hx hb dX12_word_69 (by decide) ?_
          have he := Option.some.inj hf
          rw [hQ]
          exact W.iret (v := (0 : Int32)) hx hb hr (fun t ht hW => by rw [← he]; exact ⟨⟨(0 : Int32), (), rfl, rfl, by rw [ht]; exact hP, hD⟩, hS.F ht⟩) hS.2.2 dX12_word_100
        · replace hf := im c_16 hf
          refine lv_iconst (v := 1) hx hb dX12_word_64 (by decide) ?_
          refine lv_goto (tgt := 100) hx hb dX12_word_65 (by decide) ?_
          have he := Option.some.inj hf
          rw [hQ]
          exact W.iret (v := (1 : Int32)) hx hb hr (fun t ht hW => by rw [← he]; exact ⟨⟨(1 : Int32), (), rfl, rfl, by rw [ht]; exact hP, hD⟩, hS.F ht⟩) hS.2.2 dX12_word_100
    · replace hf := ip c_7 hf
      refine lv_aload_n hx hb dX12_word_38 rfl (lv_at hl 2 rfl) ?_
      refine va_get (D := D.1) (ci := 9) (v := .ref a0_all) (C := RX12) (T := TX12) (N := 20) hx hb hts hwX12 hown hK.1 hP 0 rfl rfl 0 (by decide) l7 (fun _ h9 => h9) rfl dX12_word_39 ?_
      refine lv_iload hx hb dX12_word_42 (lv_at hl 0 rfl) ?_
      obtain ⟨h_17, hf⟩ := gd hf
      refine va_iald hx hb hK.1 hP 1 1 rfl rfl h_17 dX12_word_44 ?_
      have he := Option.some.inj hf
      rw [hQ]
      exact W.iret (v := (r1.2 (r6).toNatClampNeg)) hx hb hr (fun t ht hW => by rw [← he]; exact ⟨⟨(r1.2 (r6).toNatClampNeg), (), rfl, rfl, by rw [ht]; exact hP, hD⟩, hS.F ht⟩) hS.2.2 dX12_word_45
  · replace hf := ip c_5 hf
    refine lv_iconst (v := -1) hx hb dX12_word_24 (by decide) ?_
    have he := Option.some.inj hf
    rw [hQ]
    exact W.iret (v := (-1 : Int32)) hx hb hr (fun t ht hW => by rw [← he]; exact ⟨⟨(-1 : Int32), (), rfl, rfl, by rw [ht]; exact hP, hD⟩, hS.F ht⟩) hS.2.2 dX12_word_25
