def fX12_comes_50 (N : Nat) (p1 : Int32) (p2 : Int32) (x3 : Int32) (g0_all : Nat → Int32) : Option ((Nat → Int32)) :=
  Option.bind (fX12_wordAt p1 x3) fun r9 =>
  Option.bind (fX12_copies N g0_all p2 r9 (8 : Int32)) fun r10 =>
  if p1 < 0 ∨ 5228 ≤ (p1).toNatClampNeg then none else
  if p1 < 0 ∨ 5228 ≤ (p1).toNatClampNeg then none else
  some ((upd r10 (p1).toNatClampNeg ((r10 (p1).toNatClampNeg) + (1 : Int32))))
def fX12_comes_7 (N : Nat) (p1 : Int32) (p2 : Int32) : Nat → Int32 → (Nat → Int32) → Option ((Nat → Int32))
  | 0, _, _ => none
  | K + 1, x3, g0_all =>
    if x3 ≤ (0 : Int32) then
      fX12_comes_50 N p1 p2 x3 g0_all
    else
      Option.bind (fX12_wordAt p1 (x3 - (1 : Int32))) fun r3 =>
      Option.bind (fX12_order N g0_all p2 r3) fun r4 =>
      if (0 : Int32) ≤ r4 then
        fX12_comes_50 N p1 p2 x3 g0_all
      else
        Option.bind (fX12_wordAt p1 (x3 - (1 : Int32))) fun r6 =>
        Option.bind (fX12_wordAt p1 x3) fun r7 =>
        Option.bind (fX12_copies N g0_all r6 r7 (8 : Int32)) fun r8 =>
        (fX12_comes_7 N p1 p2 K) (x3 + (-1 : Int32)) r8
def fX12_comes (N : Nat) (g0_all : Nat → Int32) (p1 : Int32) (p2 : Int32) : Option ((Nat → Int32)) :=
  if p1 < 0 ∨ 5228 ≤ (p1).toNatClampNeg then none else
  fX12_comes_7 N p1 p2 N (g0_all (p1).toNatClampNeg) g0_all
set_option maxHeartbeats 4000000 in
set_option maxRecDepth 100000 in
theorem mX12_comes (l : Launch) (D : zG) (a0 : Nat) (a0_all : Nat) (a0_tape : Nat) (a0_isImage : Nat) (a0_turnWord : Nat) (a0_turnFrom : Nat) (a0_pieceSign : Nat) (a0_pieceFrom : Nat) (a0_runFrom : Nat) (a0_runLong : Nat) (a0_runPiece : Nat) (a0_alike : Nat) (a0_stood : Nat) (sz : Nat)  (v0_taped : Int32) (v0_faultKind : Int32) (v0_faultPlace : Int32) (v0_undos : Int32) (v0_turns : Int32) (v0_pieces : Int32) (v0_signs : Int32) (v0_runs : Int32) (g0_all : Nat → Int32) (p1 : Int32) (p2 : Int32) (N : Nat) (res : (Nat → Int32)) (hf : fX12_comes N g0_all p1 p2 = some res) : Met l yX12_comes wsX12_comes ({ frames := 1, cells := 0, slots := 0, locals := 25 } : Room) (va_Pc [.ref a0, .int p1, .int p2] (zW D sz [(a0, .inr (9, [.ref a0_all, .ref a0_tape, .ref a0_isImage, .int v0_taped, .int v0_faultKind, .int v0_faultPlace, .int v0_undos, .ref a0_turnWord, .ref a0_turnFrom, .int v0_turns, .ref a0_pieceSign, .ref a0_pieceFrom, .int v0_pieces, .int v0_signs, .ref a0_runFrom, .ref a0_runLong, .ref a0_runPiece, .int v0_runs, .ref a0_alike, .ref a0_stood])), (a0_all, .inl (D.2 1, 5228, .inl g0_all))])) (va_Qv (fun (_ : Unit) => True) (fun _ => zB D (va_A [(a0, .inr (9, [.ref a0_all, .ref a0_tape, .ref a0_isImage, .int v0_taped, .int v0_faultKind, .int v0_faultPlace, .int v0_undos, .ref a0_turnWord, .ref a0_turnFrom, .int v0_turns, .ref a0_pieceSign, .ref a0_pieceFrom, .int v0_pieces, .int v0_signs, .ref a0_runFrom, .ref a0_runLong, .ref a0_runPiece, .int v0_runs, .ref a0_alike, .ref a0_stood])), (a0_all, .inl (D.2 1, 5228, .inl g0_all))] sz) [(a0, .inr (9, [.ref a0_all, .ref a0_tape, .ref a0_isImage, .int v0_taped, .int v0_faultKind, .int v0_faultPlace, .int v0_undos, .ref a0_turnWord, .ref a0_turnFrom, .int v0_turns, .ref a0_pieceSign, .ref a0_pieceFrom, .int v0_pieces, .int v0_signs, .ref a0_runFrom, .ref a0_runLong, .ref a0_runPiece, .int v0_runs, .ref a0_alike, .ref a0_stood])), (a0_all, .inl (D.2 1, 5228, .inl res))]) (va_A [(a0, .inr (9, [.ref a0_all, .ref a0_tape, .ref a0_isImage, .int v0_taped, .int v0_faultKind, .int v0_faultPlace, .int v0_undos, .ref a0_turnWord, .ref a0_turnFrom, .int v0_turns, .ref a0_pieceSign, .ref a0_pieceFrom, .int v0_pieces, .int v0_signs, .ref a0_runFrom, .ref a0_runLong, .ref a0_runPiece, .int v0_runs, .ref a0_alike, .ref a0_stood])), (a0_all, .inl (D.2 1, 5228, .inl g0_all))] sz)) 0 0 (va_A [(a0, .inr (9, [.ref a0_all, .ref a0_tape, .ref a0_isImage, .int v0_taped, .int v0_faultKind, .int v0_faultPlace, .int v0_undos, .ref a0_turnWord, .ref a0_turnFrom, .int v0_turns, .ref a0_pieceSign, .ref a0_pieceFrom, .int v0_pieces, .int v0_signs, .ref a0_runFrom, .ref a0_runLong, .ref a0_runPiece, .int v0_runs, .ref a0_alike, .ref a0_stood])), (a0_all, .inl (D.2 1, 5228, .inl g0_all))] sz) := by
  refine Met.ofW (cc := cX12_comes) (maxL := 4) (ret := none) (by decide) rfl ?_
  intro p e s m args below meth c s₁ B hml hv
  obtain ⟨rfl, hsz, hP, hK, hD0⟩ := hv
  have hx := B.exec
  have hb := B.bytes
  have hr := B.returns
  have hts := atoms_spec (ws := wsX12_comes) B.pre
  have hown : s.vm.findClass RX12 = some m.cls := findClass_of_methodNamed B.named
  have hlocks := B.notSynchronized
  subst hsz
  have hD := hD0.self (sz := s.heap.size)
  generalize hAe : va_A [(a0, .inr (9, [.ref a0_all, .ref a0_tape, .ref a0_isImage, .int v0_taped, .int v0_faultKind, .int v0_faultPlace, .int v0_undos, .ref a0_turnWord, .ref a0_turnFrom, .int v0_turns, .ref a0_pieceSign, .ref a0_pieceFrom, .int v0_pieces, .int v0_signs, .ref a0_runFrom, .ref a0_runLong, .ref a0_runPiece, .int v0_runs, .ref a0_alike, .ref a0_stood])), (a0_all, .inl (D.2 1, 5228, .inl g0_all))] s.heap.size = A at hD ⊢
  have hA : ∀ q : Nat, s.heap.size ≤ q → A q := fun q h => by rw [← hAe]; exact Or.inr h
  have l7 := zat hts 1 (w := .fieldLink RX12 7 "TurnedWordsModel" "all" "[I") rfl
  have hwX12 : ∀ w ∈ u_ws RX12 TX12 20, w ∈ wsX12_comes := fun w h => List.mem_cons_of_mem _ (List.mem_append_right _ h)
  have hl := lv_entry ([.ref a0, .int p1, .int p2]) (n := 4) (Nat.le_of_ble_eq_true rfl)
  rw [lg_entry_eq]
  generalize (lg_sl ([.ref a0, .int p1, .int p2]) ++ List.replicate (4 - (lg_sl ([.ref a0, .int p1, .int p2])).length) Slot.unset).toArray = ls at hl ⊢
  have hl : lv_has ls 4 [(0, .ref a0), (1, .int p1), (2, .int p2)] := hl
  refine zStart (A := A) hP (fun Q0 H locs hQ hP hS => ?_)
  have k50 : ∀ (x3 : Int32) (g0_all : Nat → Int32) (H : Heap) (locs : List Loc) (ls : Array Slot), fX12_comes_50 N p1 p2 x3 g0_all = some res → va_P D.1 vwCl [(a0, .inr (9, [.ref a0_all, .ref a0_tape, .ref a0_isImage, .int v0_taped, .int v0_faultKind, .int v0_faultPlace, .int v0_undos, .ref a0_turnWord, .ref a0_turnFrom, .int v0_turns, .ref a0_pieceSign, .ref a0_pieceFrom, .int v0_pieces, .int v0_signs, .ref a0_runFrom, .ref a0_runLong, .ref a0_runPiece, .int v0_runs, .ref a0_alike, .ref a0_stood])), (a0_all, .inl (D.2 1, 5228, .inl g0_all))] H → va_D A [(a0, .inr (9, [.ref a0_all, .ref a0_tape, .ref a0_isImage, .int v0_taped, .int v0_faultKind, .int v0_faultPlace, .int v0_undos, .ref a0_turnWord, .ref a0_turnFrom, .int v0_turns, .ref a0_pieceSign, .ref a0_pieceFrom, .int v0_pieces, .int v0_signs, .ref a0_runFrom, .ref a0_runLong, .ref a0_runPiece, .int v0_runs, .ref a0_alike, .ref a0_stood])), (a0_all, .inl (D.2 1, 5228, .inl g0_all))] → va_S A s.heap H locs → lv_has ls 4 [(0, .ref a0), (1, .int p1), (2, .int p2), (3, .int x3)] → W p l e (headSpec wsX12_comes ({ frames := 1, cells := 0, slots := 0, locals := 25 } : Room)).room s m ([.ref a0, .int p1, .int p2] : List Value).toArray below meth c H locs 0 0 Q0 (F0 m 50 ls []) := by
    intro x3 g0_all H locs ls hf hP hD hS hl
    unfold fX12_comes_50 at hf
    refine lv_aload_n hx hb dX12_comes_50 rfl (lv_at hl 0 rfl) ?_
    refine lv_iload_n hx hb dX12_comes_51 rfl (lv_at hl 2 rfl) ?_
    refine lv_iload_n hx hb dX12_comes_52 rfl (lv_at hl 1 rfl) ?_
    refine lv_iload_n hx hb dX12_comes_53 rfl (lv_at hl 3 rfl) ?_
    obtain ⟨r9, hr9, hf⟩ := bd hf
    refine zSi (As := [.int p1, .int x3]) (rest := [.int p2, .ref a0]) (wn := [(a0, .inr (9, [.ref a0_all, .ref a0_tape, .ref a0_isImage, .int v0_taped, .int v0_faultKind, .int v0_faultPlace, .int v0_undos, .ref a0_turnWord, .ref a0_turnFrom, .int v0_turns, .ref a0_pieceSign, .ref a0_pieceFrom, .int v0_pieces, .int v0_signs, .ref a0_runFrom, .ref a0_runLong, .ref a0_runPiece, .int v0_runs, .ref a0_alike, .ref a0_stood])), (a0_all, .inl (D.2 1, 5228, .inl g0_all))]) ⟨hx, hb, hml, hown, hts⟩ (mX12_wordAt l D H.size p1 x3 r9 hr9) (va_cwS 2 hts gX12_comes_X12_wordAt rfl rfl rfl (by decide +kernel) ⟨Nat.le_of_ble_eq_true rfl, Nat.le_of_ble_eq_true rfl⟩) hK hP hD hS hA [] [0, 1] [0, 1] rfl (by decide) rfl (by decide) (by decide) rfl (by decide) rfl hl.1 rfl (Nat.le_of_ble_eq_true rfl) dX12_comes_54 ⟨Nat.zero_le _, Nat.zero_le _⟩ (fun H locs hP hD hS => ?_)
    refine lv_bipush (v := 8) hx hb dX12_comes_57 (by decide) ?_
    obtain ⟨r10, hr10, hf⟩ := bd hf
    refine zVv (As := [.int p2, .int r9, .int (8 : Int32)]) (rest := []) (ci := 9) (q0 := 0) (wn := [(a0, .inr (9, [.ref a0_all, .ref a0_tape, .ref a0_isImage, .int v0_taped, .int v0_faultKind, .int v0_faultPlace, .int v0_undos, .ref a0_turnWord, .ref a0_turnFrom, .int v0_turns, .ref a0_pieceSign, .ref a0_pieceFrom, .int v0_pieces, .int v0_signs, .ref a0_runFrom, .ref a0_runLong, .ref a0_runPiece, .int v0_runs, .ref a0_alike, .ref a0_stood])), (a0_all, .inl (D.2 1, 5228, .inl r10))]) ⟨hx, hb, hml, hown, hts⟩ (mX12_copies l D a0 a0_all a0_tape a0_isImage a0_turnWord a0_turnFrom a0_pieceSign a0_pieceFrom a0_runFrom a0_runLong a0_runPiece a0_alike a0_stood H.size v0_taped v0_faultKind v0_faultPlace v0_undos v0_turns v0_pieces v0_signs v0_runs g0_all p2 r9 (8 : Int32) N r10 hr10) (cwV 3 hts gX12_comes_X12_copies rfl rfl rfl (by decide +kernel) ⟨Nat.le_of_ble_eq_true rfl, Nat.le_of_ble_eq_true rfl⟩) hK hP hD hS hA [0, 1] [] [0, 1] rfl (by decide) rfl (by decide) (by decide) rfl (by decide) rfl rfl rfl hl.1 rfl (Nat.le_of_ble_eq_true rfl) dX12_comes_59 ⟨Nat.zero_le _, Nat.zero_le _⟩ (fun H locs hP hD hS => ?_)
    refine lv_aload_n hx hb dX12_comes_62 rfl (lv_at hl 0 rfl) ?_
    refine va_get (D := D.1) (ci := 9) (v := .ref a0_all) (C := RX12) (T := TX12) (N := 20) hx hb hts hwX12 hown hK.1 hP 0 rfl rfl 0 (by decide) l7 (fun _ h9 => h9) rfl dX12_comes_63 ?_
    refine lv_iload_n hx hb dX12_comes_66 rfl (lv_at hl 1 rfl) ?_
    refine lv_dup2_11 hx hb dX12_comes_67 rfl rfl ?_
    obtain ⟨h_11, hf⟩ := gd hf
    refine va_iald hx hb hK.1 hP 1 1 rfl rfl h_11 dX12_comes_68 ?_
    refine lv_iconst (v := 1) hx hb dX12_comes_69 (by decide) ?_
    refine lv_iadd hx hb dX12_comes_70 ?_
    obtain ⟨h_12, hf⟩ := gd hf
    refine va_iast hx hb hK.1 hP hD hS 1 1 rfl rfl h_12 dX12_comes_71 (fun H locs hP hD hS => ?_)
    have hP : va_P D.1 vwCl [(a0, .inr (9, [.ref a0_all, .ref a0_tape, .ref a0_isImage, .int v0_taped, .int v0_faultKind, .int v0_faultPlace, .int v0_undos, .ref a0_turnWord, .ref a0_turnFrom, .int v0_turns, .ref a0_pieceSign, .ref a0_pieceFrom, .int v0_pieces, .int v0_signs, .ref a0_runFrom, .ref a0_runLong, .ref a0_runPiece, .int v0_runs, .ref a0_alike, .ref a0_stood])), (a0_all, .inl (D.2 1, 5228, .inl (upd r10 (p1).toNatClampNeg ((r10 (p1).toNatClampNeg) + (1 : Int32)))))] H := hP
    have hD : va_D A [(a0, .inr (9, [.ref a0_all, .ref a0_tape, .ref a0_isImage, .int v0_taped, .int v0_faultKind, .int v0_faultPlace, .int v0_undos, .ref a0_turnWord, .ref a0_turnFrom, .int v0_turns, .ref a0_pieceSign, .ref a0_pieceFrom, .int v0_pieces, .int v0_signs, .ref a0_runFrom, .ref a0_runLong, .ref a0_runPiece, .int v0_runs, .ref a0_alike, .ref a0_stood])), (a0_all, .inl (D.2 1, 5228, .inl (upd r10 (p1).toNatClampNeg ((r10 (p1).toNatClampNeg) + (1 : Int32)))))] := hD
    have he := Option.some.inj hf
    rw [hQ]
    exact W.vret hx hb hr (fun t ht hW => by rw [← he]; exact ⟨⟨(), rfl, trivial, by rw [ht]; exact hP, hD⟩, hS.F ht⟩) hS.2.2 dX12_comes_72
  have k7 : ∀ K : Nat, ∀ (x3 : Int32) (g0_all : Nat → Int32) (H : Heap) (locs : List Loc) (ls : Array Slot), fX12_comes_7 N p1 p2 K x3 g0_all = some res → va_P D.1 vwCl [(a0, .inr (9, [.ref a0_all, .ref a0_tape, .ref a0_isImage, .int v0_taped, .int v0_faultKind, .int v0_faultPlace, .int v0_undos, .ref a0_turnWord, .ref a0_turnFrom, .int v0_turns, .ref a0_pieceSign, .ref a0_pieceFrom, .int v0_pieces, .int v0_signs, .ref a0_runFrom, .ref a0_runLong, .ref a0_runPiece, .int v0_runs, .ref a0_alike, .ref a0_stood])), (a0_all, .inl (D.2 1, 5228, .inl g0_all))] H → va_D A [(a0, .inr (9, [.ref a0_all, .ref a0_tape, .ref a0_isImage, .int v0_taped, .int v0_faultKind, .int v0_faultPlace, .int v0_undos, .ref a0_turnWord, .ref a0_turnFrom, .int v0_turns, .ref a0_pieceSign, .ref a0_pieceFrom, .int v0_pieces, .int v0_signs, .ref a0_runFrom, .ref a0_runLong, .ref a0_runPiece, .int v0_runs, .ref a0_alike, .ref a0_stood])), (a0_all, .inl (D.2 1, 5228, .inl g0_all))] → va_S A s.heap H locs → lv_has ls 4 [(0, .ref a0), (1, .int p1), (2, .int p2), (3, .int x3)] → W p l e (headSpec wsX12_comes ({ frames := 1, cells := 0, slots := 0, locals := 25 } : Room)).room s m ([.ref a0, .int p1, .int p2] : List Value).toArray below meth c H locs 0 0 Q0 (F0 m 7 ls []) := by
    intro K
    induction K with
    | zero =>
      intro x3 g0_all H locs ls hf
      rw [fX12_comes_7] at hf
      cases hf
    | succ K ih =>
      intro x3 g0_all H locs ls hf hP hD hS hl
      rw [fX12_comes_7] at hf
      refine lv_iload_n hx hb dX12_comes_7 rfl (lv_at hl 3 rfl) ?_
      refine lv_if_le (tgt := 50) hx hb dX12_comes_8 (by decide) (fun c_2 => ?_) (fun c_2 => ?_)
      · replace hf := ip c_2 hf
        exact k50 x3 g0_all H locs ls hf hP hD hS hl
      · replace hf := im c_2 hf
        refine lv_aload_n hx hb dX12_comes_11 rfl (lv_at hl 0 rfl) ?_
        refine lv_iload_n hx hb dX12_comes_12 rfl (lv_at hl 2 rfl) ?_
        refine lv_iload_n hx hb dX12_comes_13 rfl (lv_at hl 1 rfl) ?_
        refine lv_iload_n hx hb dX12_comes_14 rfl (lv_at hl 3 rfl) ?_
        refine lv_iconst (v := 1) hx hb dX12_comes_15 (by decide) ?_
        refine lv_isub hx hb dX12_comes_16 ?_
        obtain ⟨r3, hr3, hf⟩ := bd hf
        refine zSi (As := [.int p1, .int (x3 - (1 : Int32))]) (rest := [.int p2, .ref a0]) (wn := [(a0, .inr (9, [.ref a0_all, .ref a0_tape, .ref a0_isImage, .int v0_taped, .int v0_faultKind, .int v0_faultPlace, .int v0_undos, .ref a0_turnWord, .ref a0_turnFrom, .int v0_turns, .ref a0_pieceSign, .ref a0_pieceFrom, .int v0_pieces, .int v0_signs, .ref a0_runFrom, .ref a0_runLong, .ref a0_runPiece, .int v0_runs, .ref a0_alike, .ref a0_stood])), (a0_all, .inl (D.2 1, 5228, .inl g0_all))]) ⟨hx, hb, hml, hown, hts⟩ (mX12_wordAt l D H.size p1 (x3 - (1 : Int32)) r3 hr3) (va_cwS 2 hts gX12_comes_X12_wordAt rfl rfl rfl (by decide +kernel) ⟨Nat.le_of_ble_eq_true rfl, Nat.le_of_ble_eq_true rfl⟩) hK hP hD hS hA [] [0, 1] [0, 1] rfl (by decide) rfl (by decide) (by decide) rfl (by decide) rfl hl.1 rfl (Nat.le_of_ble_eq_true rfl) dX12_comes_17 ⟨Nat.zero_le _, Nat.zero_le _⟩ (fun H locs hP hD hS => ?_)
        obtain ⟨r4, hr4, hf⟩ := bd hf
        refine zVi (As := [.int p2, .int r3]) (rest := []) (ci := 9) (q0 := 0) (wn := [(a0, .inr (9, [.ref a0_all, .ref a0_tape, .ref a0_isImage, .int v0_taped, .int v0_faultKind, .int v0_faultPlace, .int v0_undos, .ref a0_turnWord, .ref a0_turnFrom, .int v0_turns, .ref a0_pieceSign, .ref a0_pieceFrom, .int v0_pieces, .int v0_signs, .ref a0_runFrom, .ref a0_runLong, .ref a0_runPiece, .int v0_runs, .ref a0_alike, .ref a0_stood])), (a0_all, .inl (D.2 1, 5228, .inl g0_all))]) ⟨hx, hb, hml, hown, hts⟩ (mX12_order l D a0 a0_all a0_tape a0_isImage a0_turnWord a0_turnFrom a0_pieceSign a0_pieceFrom a0_runFrom a0_runLong a0_runPiece a0_alike a0_stood H.size v0_taped v0_faultKind v0_faultPlace v0_undos v0_turns v0_pieces v0_signs v0_runs g0_all p2 r3 N r4 hr4) (cwV 2 hts gX12_comes_X12_order rfl rfl rfl (by decide +kernel) ⟨Nat.le_of_ble_eq_true rfl, Nat.le_of_ble_eq_true rfl⟩) hK hP hD hS hA [0, 1] [] [0, 1] rfl (by decide) rfl (by decide) (by decide) rfl (by decide) rfl rfl rfl hl.1 rfl (Nat.le_of_ble_eq_true rfl) dX12_comes_20 ⟨Nat.zero_le _, Nat.zero_le _⟩ (fun H locs hP hD hS => ?_)
        refine lv_if_ge (tgt := 50) hx hb dX12_comes_23 (by decide) (fun c_5 => ?_) (fun c_5 => ?_)
        · replace hf := ip c_5 hf
          exact k50 x3 g0_all H locs ls hf hP hD hS hl
        · replace hf := im c_5 hf
          refine lv_aload_n hx hb dX12_comes_26 rfl (lv_at hl 0 rfl) ?_
          refine lv_iload_n hx hb dX12_comes_27 rfl (lv_at hl 1 rfl) ?_
          refine lv_iload_n hx hb dX12_comes_28 rfl (lv_at hl 3 rfl) ?_
          refine lv_iconst (v := 1) hx hb dX12_comes_29 (by decide) ?_
          refine lv_isub hx hb dX12_comes_30 ?_
          obtain ⟨r6, hr6, hf⟩ := bd hf
          refine zSi (As := [.int p1, .int (x3 - (1 : Int32))]) (rest := [.ref a0]) (wn := [(a0, .inr (9, [.ref a0_all, .ref a0_tape, .ref a0_isImage, .int v0_taped, .int v0_faultKind, .int v0_faultPlace, .int v0_undos, .ref a0_turnWord, .ref a0_turnFrom, .int v0_turns, .ref a0_pieceSign, .ref a0_pieceFrom, .int v0_pieces, .int v0_signs, .ref a0_runFrom, .ref a0_runLong, .ref a0_runPiece, .int v0_runs, .ref a0_alike, .ref a0_stood])), (a0_all, .inl (D.2 1, 5228, .inl g0_all))]) ⟨hx, hb, hml, hown, hts⟩ (mX12_wordAt l D H.size p1 (x3 - (1 : Int32)) r6 hr6) (va_cwS 2 hts gX12_comes_X12_wordAt rfl rfl rfl (by decide +kernel) ⟨Nat.le_of_ble_eq_true rfl, Nat.le_of_ble_eq_true rfl⟩) hK hP hD hS hA [] [0, 1] [0, 1] rfl (by decide) rfl (by decide) (by decide) rfl (by decide) rfl hl.1 rfl (Nat.le_of_ble_eq_true rfl) dX12_comes_31 ⟨Nat.zero_le _, Nat.zero_le _⟩ (fun H locs hP hD hS => ?_)
          refine lv_iload_n hx hb dX12_comes_34 rfl (lv_at hl 1 rfl) ?_
          refine lv_iload_n hx hb dX12_comes_35 rfl (lv_at hl 3 rfl) ?_
          obtain ⟨r7, hr7, hf⟩ := bd hf
          refine zSi (As := [.int p1, .int x3]) (rest := [.int r6, .ref a0]) (wn := [(a0, .inr (9, [.ref a0_all, .ref a0_tape, .ref a0_isImage, .int v0_taped, .int v0_faultKind, .int v0_faultPlace, .int v0_undos, .ref a0_turnWord, .ref a0_turnFrom, .int v0_turns, .ref a0_pieceSign, .ref a0_pieceFrom, .int v0_pieces, .int v0_signs, .ref a0_runFrom, .ref a0_runLong, .ref a0_runPiece, .int v0_runs, .ref a0_alike, .ref a0_stood])), (a0_all, .inl (D.2 1, 5228, .inl g0_all))]) ⟨hx, hb, hml, hown, hts⟩ (mX12_wordAt l D H.size p1 x3 r7 hr7) (va_cwS 2 hts gX12_comes_X12_wordAt rfl rfl rfl (by decide +kernel) ⟨Nat.le_of_ble_eq_true rfl, Nat.le_of_ble_eq_true rfl⟩) hK hP hD hS hA [] [0, 1] [0, 1] rfl (by decide) rfl (by decide) (by decide) rfl (by decide) rfl hl.1 rfl (Nat.le_of_ble_eq_true rfl) dX12_comes_36 ⟨Nat.zero_le _, Nat.zero_le _⟩ (fun H locs hP hD hS => ?_)
          refine lv_bipush (v := 8) hx hb dX12_comes_39 (by decide) ?_
          obtain ⟨r8, hr8, hf⟩ := bd hf
          refine zVv (As := [.int r6, .int r7, .int (8 : Int32)]) (rest := []) (ci := 9) (q0 := 0) (wn := [(a0, .inr (9, [.ref a0_all, .ref a0_tape, .ref a0_isImage, .int v0_taped, .int v0_faultKind, .int v0_faultPlace, .int v0_undos, .ref a0_turnWord, .ref a0_turnFrom, .int v0_turns, .ref a0_pieceSign, .ref a0_pieceFrom, .int v0_pieces, .int v0_signs, .ref a0_runFrom, .ref a0_runLong, .ref a0_runPiece, .int v0_runs, .ref a0_alike, .ref a0_stood])), (a0_all, .inl (D.2 1, 5228, .inl r8))]) ⟨hx, hb, hml, hown, hts⟩ (mX12_copies l D a0 a0_all a0_tape a0_isImage a0_turnWord a0_turnFrom a0_pieceSign a0_pieceFrom a0_runFrom a0_runLong a0_runPiece a0_alike a0_stood H.size v0_taped v0_faultKind v0_faultPlace v0_undos v0_turns v0_pieces v0_signs v0_runs g0_all r6 r7 (8 : Int32) N r8 hr8) (cwV 3 hts gX12_comes_X12_copies rfl rfl rfl (by decide +kernel) ⟨Nat.le_of_ble_eq_true rfl, Nat.le_of_ble_eq_true rfl⟩) hK hP hD hS hA [0, 1] [] [0, 1] rfl (by decide) rfl (by decide) (by decide) rfl (by decide) rfl rfl rfl hl.1 rfl (Nat.le_of_ble_eq_true rfl) dX12_comes_41 ⟨Nat.zero_le _, Nat.zero_le _⟩ (fun H locs hP hD hS => ?_)
          refine lv_iinc (v := (x3 + (-1 : Int32))) (lv' := [(3, .int (x3 + (-1 : Int32))), (0, .ref a0), (1, .int p1), (2, .int p2)]) hx hb dX12_comes_44 hl (k := 3) rfl rfl (by decide) rfl (fun ls hl => ?_)
          refine lv_goto (tgt := 7) hx hb dX12_comes_47 (by decide) ?_
          exact ih (x3 + (-1 : Int32)) r8 H locs ls hf hP hD hS (lv_sub hl [1, 2, 3, 0] rfl)
  unfold fX12_comes at hf
  refine lv_aload_n hx hb dX12_comes_0 rfl (lv_at hl 0 rfl) ?_
  refine va_get (D := D.1) (ci := 9) (v := .ref a0_all) (C := RX12) (T := TX12) (N := 20) hx hb hts hwX12 hown hK.1 hP 0 rfl rfl 0 (by decide) l7 (fun _ h9 => h9) rfl dX12_comes_1 ?_
  refine lv_iload_n hx hb dX12_comes_4 rfl (lv_at hl 1 rfl) ?_
  obtain ⟨h_1, hf⟩ := gd hf
  refine va_iald hx hb hK.1 hP 1 1 rfl rfl h_1 dX12_comes_5 ?_
  refine lv_istore_n (lv' := [(3, .int (g0_all (p1).toNatClampNeg)), (0, .ref a0), (1, .int p1), (2, .int p2)]) hx hb dX12_comes_6 rfl hl (by decide) rfl (fun ls hl => ?_)
  exact k7 N (g0_all (p1).toNatClampNeg) g0_all H locs ls hf hP hD hS (lv_sub hl [1, 2, 3, 0] rfl)
def fX12_goes (N : Nat) (g0_all : Nat → Int32) (p1 : Int32) (p2 : Int32) : Option ((Nat → Int32)) :=
  if p1 < 0 ∨ 5228 ≤ (p1).toNatClampNeg then none else
  if p1 < 0 ∨ 5228 ≤ (p1).toNatClampNeg then none else
  Option.bind (fX12_wordAt p1 (p2 + (1 : Int32))) fun r3 =>
  Option.bind (fX12_wordAt p1 p2) fun r4 =>
  if p1 < 0 ∨ 5228 ≤ (p1).toNatClampNeg then none else
  Option.bind (fX12_copies N (upd g0_all (p1).toNatClampNeg ((g0_all (p1).toNatClampNeg) - (1 : Int32))) r3 r4 ((8 : Int32) * (((upd g0_all (p1).toNatClampNeg ((g0_all (p1).toNatClampNeg) - (1 : Int32))) (p1).toNatClampNeg) - p2))) fun r6 =>
  some (r6)
set_option maxHeartbeats 4000000 in
set_option maxRecDepth 100000 in
theorem mX12_goes (l : Launch) (D : zG) (a0 : Nat) (a0_all : Nat) (a0_tape : Nat) (a0_isImage : Nat) (a0_turnWord : Nat) (a0_turnFrom : Nat) (a0_pieceSign : Nat) (a0_pieceFrom : Nat) (a0_runFrom : Nat) (a0_runLong : Nat) (a0_runPiece : Nat) (a0_alike : Nat) (a0_stood : Nat) (sz : Nat)  (v0_taped : Int32) (v0_faultKind : Int32) (v0_faultPlace : Int32) (v0_undos : Int32) (v0_turns : Int32) (v0_pieces : Int32) (v0_signs : Int32) (v0_runs : Int32) (g0_all : Nat → Int32) (p1 : Int32) (p2 : Int32) (N : Nat) (res : (Nat → Int32)) (hf : fX12_goes N g0_all p1 p2 = some res) : Met l yX12_goes wsX12_goes ({ frames := 1, cells := 0, slots := 0, locals := 24 } : Room) (va_Pc [.ref a0, .int p1, .int p2] (zW D sz [(a0, .inr (9, [.ref a0_all, .ref a0_tape, .ref a0_isImage, .int v0_taped, .int v0_faultKind, .int v0_faultPlace, .int v0_undos, .ref a0_turnWord, .ref a0_turnFrom, .int v0_turns, .ref a0_pieceSign, .ref a0_pieceFrom, .int v0_pieces, .int v0_signs, .ref a0_runFrom, .ref a0_runLong, .ref a0_runPiece, .int v0_runs, .ref a0_alike, .ref a0_stood])), (a0_all, .inl (D.2 1, 5228, .inl g0_all))])) (va_Qv (fun (_ : Unit) => True) (fun _ => zB D (va_A [(a0, .inr (9, [.ref a0_all, .ref a0_tape, .ref a0_isImage, .int v0_taped, .int v0_faultKind, .int v0_faultPlace, .int v0_undos, .ref a0_turnWord, .ref a0_turnFrom, .int v0_turns, .ref a0_pieceSign, .ref a0_pieceFrom, .int v0_pieces, .int v0_signs, .ref a0_runFrom, .ref a0_runLong, .ref a0_runPiece, .int v0_runs, .ref a0_alike, .ref a0_stood])), (a0_all, .inl (D.2 1, 5228, .inl g0_all))] sz) [(a0, .inr (9, [.ref a0_all, .ref a0_tape, .ref a0_isImage, .int v0_taped, .int v0_faultKind, .int v0_faultPlace, .int v0_undos, .ref a0_turnWord, .ref a0_turnFrom, .int v0_turns, .ref a0_pieceSign, .ref a0_pieceFrom, .int v0_pieces, .int v0_signs, .ref a0_runFrom, .ref a0_runLong, .ref a0_runPiece, .int v0_runs, .ref a0_alike, .ref a0_stood])), (a0_all, .inl (D.2 1, 5228, .inl res))]) (va_A [(a0, .inr (9, [.ref a0_all, .ref a0_tape, .ref a0_isImage, .int v0_taped, .int v0_faultKind, .int v0_faultPlace, .int v0_undos, .ref a0_turnWord, .ref a0_turnFrom, .int v0_turns, .ref a0_pieceSign, .ref a0_pieceFrom, .int v0_pieces, .int v0_signs, .ref a0_runFrom, .ref a0_runLong, .ref a0_runPiece, .int v0_runs, .ref a0_alike, .ref a0_stood])), (a0_all, .inl (D.2 1, 5228, .inl g0_all))] sz)) 0 0 (va_A [(a0, .inr (9, [.ref a0_all, .ref a0_tape, .ref a0_isImage, .int v0_taped, .int v0_faultKind, .int v0_faultPlace, .int v0_undos, .ref a0_turnWord, .ref a0_turnFrom, .int v0_turns, .ref a0_pieceSign, .ref a0_pieceFrom, .int v0_pieces, .int v0_signs, .ref a0_runFrom, .ref a0_runLong, .ref a0_runPiece, .int v0_runs, .ref a0_alike, .ref a0_stood])), (a0_all, .inl (D.2 1, 5228, .inl g0_all))] sz) := by
  refine Met.ofW (cc := cX12_goes) (maxL := 3) (ret := none) (by decide) rfl ?_
  intro p e s m args below meth c s₁ B hml hv
  obtain ⟨rfl, hsz, hP, hK, hD0⟩ := hv
  have hx := B.exec
  have hb := B.bytes
  have hr := B.returns
  have hts := atoms_spec (ws := wsX12_goes) B.pre
  have hown : s.vm.findClass RX12 = some m.cls := findClass_of_methodNamed B.named
  have hlocks := B.notSynchronized
  subst hsz
  have hD := hD0.self (sz := s.heap.size)
  generalize hAe : va_A [(a0, .inr (9, [.ref a0_all, .ref a0_tape, .ref a0_isImage, .int v0_taped, .int v0_faultKind, .int v0_faultPlace, .int v0_undos, .ref a0_turnWord, .ref a0_turnFrom, .int v0_turns, .ref a0_pieceSign, .ref a0_pieceFrom, .int v0_pieces, .int v0_signs, .ref a0_runFrom, .ref a0_runLong, .ref a0_runPiece, .int v0_runs, .ref a0_alike, .ref a0_stood])), (a0_all, .inl (D.2 1, 5228, .inl g0_all))] s.heap.size = A at hD ⊢
  have hA : ∀ q : Nat, s.heap.size ≤ q → A q := fun q h => by rw [← hAe]; exact Or.inr h
  have l7 := zat hts 1 (w := .fieldLink RX12 7 "TurnedWordsModel" "all" "[I") rfl
  have hwX12 : ∀ w ∈ u_ws RX12 TX12 20, w ∈ wsX12_goes := fun w h => List.mem_cons_of_mem _ (List.mem_append_right _ h)
  have hl := lv_entry ([.ref a0, .int p1, .int p2]) (n := 3) (Nat.le_of_ble_eq_true rfl)
  rw [lg_entry_eq]
  generalize (lg_sl ([.ref a0, .int p1, .int p2]) ++ List.replicate (3 - (lg_sl ([.ref a0, .int p1, .int p2])).length) Slot.unset).toArray = ls at hl ⊢
  have hl : lv_has ls 3 [(0, .ref a0), (1, .int p1), (2, .int p2)] := hl
  refine zStart (A := A) hP (fun Q0 H locs hQ hP hS => ?_)
  unfold fX12_goes at hf
  refine lv_aload_n hx hb dX12_goes_0 rfl (lv_at hl 0 rfl) ?_
  refine va_get (D := D.1) (ci := 9) (v := .ref a0_all) (C := RX12) (T := TX12) (N := 20) hx hb hts hwX12 hown hK.1 hP 0 rfl rfl 0 (by decide) l7 (fun _ h9 => h9) rfl dX12_goes_1 ?_
  refine lv_iload_n hx hb dX12_goes_4 rfl (lv_at hl 1 rfl) ?_
  refine lv_dup2_11 hx hb dX12_goes_5 rfl rfl ?_
  obtain ⟨h_1, hf⟩ := gd hf
  refine va_iald hx hb hK.1 hP 1 1 rfl rfl h_1 dX12_goes_6 ?_
  refine lv_iconst (v := 1) hx hb dX12_goes_7 (by decide) ?_
  refine lv_isub hx hb dX12_goes_8 ?_
  obtain ⟨h_2, hf⟩ := gd hf
  refine va_iast hx hb hK.1 hP hD hS 1 1 rfl rfl h_2 dX12_goes_9 (fun H locs hP hD hS => ?_)
  have hP : va_P D.1 vwCl [(a0, .inr (9, [.ref a0_all, .ref a0_tape, .ref a0_isImage, .int v0_taped, .int v0_faultKind, .int v0_faultPlace, .int v0_undos, .ref a0_turnWord, .ref a0_turnFrom, .int v0_turns, .ref a0_pieceSign, .ref a0_pieceFrom, .int v0_pieces, .int v0_signs, .ref a0_runFrom, .ref a0_runLong, .ref a0_runPiece, .int v0_runs, .ref a0_alike, .ref a0_stood])), (a0_all, .inl (D.2 1, 5228, .inl (upd g0_all (p1).toNatClampNeg ((g0_all (p1).toNatClampNeg) - (1 : Int32)))))] H := hP
  have hD : va_D A [(a0, .inr (9, [.ref a0_all, .ref a0_tape, .ref a0_isImage, .int v0_taped, .int v0_faultKind, .int v0_faultPlace, .int v0_undos, .ref a0_turnWord, .ref a0_turnFrom, .int v0_turns, .ref a0_pieceSign, .ref a0_pieceFrom, .int v0_pieces, .int v0_signs, .ref a0_runFrom, .ref a0_runLong, .ref a0_runPiece, .int v0_runs, .ref a0_alike, .ref a0_stood])), (a0_all, .inl (D.2 1, 5228, .inl (upd g0_all (p1).toNatClampNeg ((g0_all (p1).toNatClampNeg) - (1 : Int32)))))] := hD
  refine lv_aload_n hx hb dX12_goes_10 rfl (lv_at hl 0 rfl) ?_
  refine lv_iload_n hx hb dX12_goes_11 rfl (lv_at hl 1 rfl) ?_
  refine lv_iload_n hx hb dX12_goes_12 rfl (lv_at hl 2 rfl) ?_
  refine lv_iconst (v := 1) hx hb dX12_goes_13 (by decide) ?_
  refine lv_iadd hx hb dX12_goes_14 ?_
  obtain ⟨r3, hr3, hf⟩ := bd hf
  refine zSi (As := [.int p1, .int (p2 + (1 : Int32))]) (rest := [.ref a0]) (wn := [(a0, .inr (9, [.ref a0_all, .ref a0_tape, .ref a0_isImage, .int v0_taped, .int v0_faultKind, .int v0_faultPlace, .int v0_undos, .ref a0_turnWord, .ref a0_turnFrom, .int v0_turns, .ref a0_pieceSign, .ref a0_pieceFrom, .int v0_pieces, .int v0_signs, .ref a0_runFrom, .ref a0_runLong, .ref a0_runPiece, .int v0_runs, .ref a0_alike, .ref a0_stood])), (a0_all, .inl (D.2 1, 5228, .inl (upd g0_all (p1).toNatClampNeg ((g0_all (p1).toNatClampNeg) - (1 : Int32)))))]) ⟨hx, hb, hml, hown, hts⟩ (mX12_wordAt l D H.size p1 (p2 + (1 : Int32)) r3 hr3) (va_cwS 2 hts gX12_goes_X12_wordAt rfl rfl rfl (by decide +kernel) ⟨Nat.le_of_ble_eq_true rfl, Nat.le_of_ble_eq_true rfl⟩) hK hP hD hS hA [] [0, 1] [0, 1] rfl (by decide) rfl (by decide) (by decide) rfl (by decide) rfl hl.1 rfl (Nat.le_of_ble_eq_true rfl) dX12_goes_15 ⟨Nat.zero_le _, Nat.zero_le _⟩ (fun H locs hP hD hS => ?_)
  refine lv_iload_n hx hb dX12_goes_18 rfl (lv_at hl 1 rfl) ?_
  refine lv_iload_n hx hb dX12_goes_19 rfl (lv_at hl 2 rfl) ?_
  obtain ⟨r4, hr4, hf⟩ := bd hf
  refine zSi (As := [.int p1, .int p2]) (rest := [.int r3, .ref a0]) (wn := [(a0, .inr (9, [.ref a0_all, .ref a0_tape, .ref a0_isImage, .int v0_taped, .int v0_faultKind, .int v0_faultPlace, .int v0_undos, .ref a0_turnWord, .ref a0_turnFrom, .int v0_turns, .ref a0_pieceSign, .ref a0_pieceFrom, .int v0_pieces, .int v0_signs, .ref a0_runFrom, .ref a0_runLong, .ref a0_runPiece, .int v0_runs, .ref a0_alike, .ref a0_stood])), (a0_all, .inl (D.2 1, 5228, .inl (upd g0_all (p1).toNatClampNeg ((g0_all (p1).toNatClampNeg) - (1 : Int32)))))]) ⟨hx, hb, hml, hown, hts⟩ (mX12_wordAt l D H.size p1 p2 r4 hr4) (va_cwS 2 hts gX12_goes_X12_wordAt rfl rfl rfl (by decide +kernel) ⟨Nat.le_of_ble_eq_true rfl, Nat.le_of_ble_eq_true rfl⟩) hK hP hD hS hA [] [0, 1] [0, 1] rfl (by decide) rfl (by decide) (by decide) rfl (by decide) rfl hl.1 rfl (Nat.le_of_ble_eq_true rfl) dX12_goes_20 ⟨Nat.zero_le _, Nat.zero_le _⟩ (fun H locs hP hD hS => ?_)
  refine lv_bipush (v := 8) hx hb dX12_goes_23 (by decide) ?_
  refine lv_aload_n hx hb dX12_goes_25 rfl (lv_at hl 0 rfl) ?_
  refine va_get (D := D.1) (ci := 9) (v := .ref a0_all) (C := RX12) (T := TX12) (N := 20) hx hb hts hwX12 hown hK.1 hP 0 rfl rfl 0 (by decide) l7 (fun _ h9 => h9) rfl dX12_goes_26 ?_
  refine lv_iload_n hx hb dX12_goes_29 rfl (lv_at hl 1 rfl) ?_
  obtain ⟨h_5, hf⟩ := gd hf
  refine va_iald hx hb hK.1 hP 1 1 rfl rfl h_5 dX12_goes_30 ?_
  refine lv_iload_n hx hb dX12_goes_31 rfl (lv_at hl 2 rfl) ?_
  refine lv_isub hx hb dX12_goes_32 ?_
  refine lv_imul hx hb dX12_goes_33 ?_
  obtain ⟨r6, hr6, hf⟩ := bd hf
  refine zVv (As := [.int r3, .int r4, .int ((8 : Int32) * (((upd g0_all (p1).toNatClampNeg ((g0_all (p1).toNatClampNeg) - (1 : Int32))) (p1).toNatClampNeg) - p2))]) (rest := []) (ci := 9) (q0 := 0) (wn := [(a0, .inr (9, [.ref a0_all, .ref a0_tape, .ref a0_isImage, .int v0_taped, .int v0_faultKind, .int v0_faultPlace, .int v0_undos, .ref a0_turnWord, .ref a0_turnFrom, .int v0_turns, .ref a0_pieceSign, .ref a0_pieceFrom, .int v0_pieces, .int v0_signs, .ref a0_runFrom, .ref a0_runLong, .ref a0_runPiece, .int v0_runs, .ref a0_alike, .ref a0_stood])), (a0_all, .inl (D.2 1, 5228, .inl r6))]) ⟨hx, hb, hml, hown, hts⟩ (mX12_copies l D a0 a0_all a0_tape a0_isImage a0_turnWord a0_turnFrom a0_pieceSign a0_pieceFrom a0_runFrom a0_runLong a0_runPiece a0_alike a0_stood H.size v0_taped v0_faultKind v0_faultPlace v0_undos v0_turns v0_pieces v0_signs v0_runs (upd g0_all (p1).toNatClampNeg ((g0_all (p1).toNatClampNeg) - (1 : Int32))) r3 r4 ((8 : Int32) * (((upd g0_all (p1).toNatClampNeg ((g0_all (p1).toNatClampNeg) - (1 : Int32))) (p1).toNatClampNeg) - p2)) N r6 hr6) (cwV 3 hts gX12_goes_X12_copies rfl rfl rfl (by decide +kernel) ⟨Nat.le_of_ble_eq_true rfl, Nat.le_of_ble_eq_true rfl⟩) hK hP hD hS hA [0, 1] [] [0, 1] rfl (by decide) rfl (by decide) (by decide) rfl (by decide) rfl rfl rfl hl.1 rfl (Nat.le_of_ble_eq_true rfl) dX12_goes_34 ⟨Nat.zero_le _, Nat.zero_le _⟩ (fun H locs hP hD hS => ?_)
  have he := Option.some.inj hf
  rw [hQ]
  exact W.vret hx hb hr (fun t ht hW => by rw [← he]; exact ⟨⟨(), rfl, trivial, by rw [ht]; exact hP, hD⟩, hS.F ht⟩) hS.2.2 dX12_goes_37
def fX12_editAt (p0 : Int32) : Option (Int32) :=
  some (((322 : Int32) + ((9 : Int32) * p0)))
set_option maxHeartbeats 4000000 in
set_option maxRecDepth 100000 in
theorem mX12_editAt (l : Launch) (D : zG)  (sz : Nat)   (p0 : Int32) (res : Int32) (hf : fX12_editAt p0 = some res) : Met l yX12_editAt wsX12_editAt ({ frames := 0, cells := 0, slots := 0, locals := 0 } : Room) (va_Pc [.int p0] (zW D sz [])) (va_Qi (fun r (_ : Unit) => r = res) (fun _ => zB D (va_A [] sz) []) (va_A [] sz)) 0 0 (va_A [] sz) := by
  refine Met.ofW (cc := cX12_editAt) (maxL := 1) (ret := (some .int)) (by decide) rfl ?_
  intro p e s m args below meth c s₁ B hml hv
  obtain ⟨rfl, hsz, hP, hK, hD0⟩ := hv
  have hx := B.exec
  have hb := B.bytes
  have hr := B.returns
  have hts := atoms_spec (ws := wsX12_editAt) B.pre
  have hown : s.vm.findClass RX12 = some m.cls := findClass_of_methodNamed B.named
  have hlocks := B.notSynchronized
  subst hsz
  have hD := hD0.self (sz := s.heap.size)
  generalize hAe : va_A [] s.heap.size = A at hD ⊢
  have hA : ∀ q : Nat, s.heap.size ≤ q → A q := fun q h => by rw [← hAe]; exact Or.inr h
  have hl := lv_entry ([.int p0]) (n := 1) (Nat.le_of_ble_eq_true rfl)
  rw [lg_entry_eq]
  generalize (lg_sl ([.int p0]) ++ List.replicate (1 - (lg_sl ([.int p0])).length) Slot.unset).toArray = ls at hl ⊢
  have hl : lv_has ls 1 [(0, .int p0)] := hl
  refine zStart (A := A) hP (fun Q0 H locs hQ hP hS => ?_)
  unfold fX12_editAt at hf
  refine lv_sipush (v := 322) hx hb dX12_editAt_0 (by decide) ?_
  refine lv_bipush (v := 9) hx hb dX12_editAt_3 (by decide) ?_
  refine lv_iload_n hx hb dX12_editAt_5 rfl (lv_at hl 0 rfl) ?_
  refine lv_imul hx hb dX12_editAt_6 ?_
  refine lv_iadd hx hb dX12_editAt_7 ?_
  have he := Option.some.inj hf
  rw [hQ]
  exact W.iret (v := ((322 : Int32) + ((9 : Int32) * p0))) hx hb hr (fun t ht hW => by rw [← he]; exact ⟨⟨((322 : Int32) + ((9 : Int32) * p0)), (), rfl, rfl, by rw [ht]; exact hP, hD⟩, hS.F ht⟩) hS.2.2 dX12_editAt_8
def fX12_laysComing_13 (N : Nat) : Nat → Int32 → (Nat → Int32) → Option ((Nat → Int32))
  | 0, _, _ => none
  | K + 1, x1, g0_all =>
    if (321 : Int32) < 0 ∨ 5228 ≤ ((321 : Int32)).toNatClampNeg then none else
    if (g0_all ((321 : Int32)).toNatClampNeg) ≤ x1 then
      some (g0_all)
    else
      Option.bind (fX12_editAt x1) fun r4 =>
      Option.bind (fX12_editAt x1) fun r5 =>
      if r5 < 0 ∨ 5228 ≤ (r5).toNatClampNeg then none else
      if (g0_all (r5).toNatClampNeg) = (1 : Int32) then
        Option.bind (fX12_numberOf N g0_all (443 : Int32) (r4 + (1 : Int32))) fun r9 =>
        Option.bind (fX12_goes N g0_all (443 : Int32) r9) fun r10 =>
        (fX12_laysComing_13 N K) (x1 + (1 : Int32)) r10
      else
        Option.bind (fX12_comes N g0_all (443 : Int32) (r4 + (1 : Int32))) fun r8 =>
        (fX12_laysComing_13 N K) (x1 + (1 : Int32)) r8
def fX12_laysComing (N : Nat) (g0_all : Nat → Int32) : Option ((Nat → Int32)) :=
  Option.bind (fX12_copies N g0_all (0 : Int32) (443 : Int32) (321 : Int32)) fun r1 =>
  fX12_laysComing_13 N N (0 : Int32) r1
set_option maxHeartbeats 4000000 in
set_option maxRecDepth 100000 in
theorem mX12_laysComing (l : Launch) (D : zG) (a0 : Nat) (a0_all : Nat) (a0_tape : Nat) (a0_isImage : Nat) (a0_turnWord : Nat) (a0_turnFrom : Nat) (a0_pieceSign : Nat) (a0_pieceFrom : Nat) (a0_runFrom : Nat) (a0_runLong : Nat) (a0_runPiece : Nat) (a0_alike : Nat) (a0_stood : Nat) (sz : Nat)  (v0_taped : Int32) (v0_faultKind : Int32) (v0_faultPlace : Int32) (v0_undos : Int32) (v0_turns : Int32) (v0_pieces : Int32) (v0_signs : Int32) (v0_runs : Int32) (g0_all : Nat → Int32)  (N : Nat) (res : (Nat → Int32)) (hf : fX12_laysComing N g0_all = some res) : Met l yX12_laysComing wsX12_laysComing ({ frames := 2, cells := 0, slots := 0, locals := 48 } : Room) (va_Pc [.ref a0] (zW D sz [(a0, .inr (9, [.ref a0_all, .ref a0_tape, .ref a0_isImage, .int v0_taped, .int v0_faultKind, .int v0_faultPlace, .int v0_undos, .ref a0_turnWord, .ref a0_turnFrom, .int v0_turns, .ref a0_pieceSign, .ref a0_pieceFrom, .int v0_pieces, .int v0_signs, .ref a0_runFrom, .ref a0_runLong, .ref a0_runPiece, .int v0_runs, .ref a0_alike, .ref a0_stood])), (a0_all, .inl (D.2 1, 5228, .inl g0_all))])) (va_Qv (fun (_ : Unit) => True) (fun _ => zB D (va_A [(a0, .inr (9, [.ref a0_all, .ref a0_tape, .ref a0_isImage, .int v0_taped, .int v0_faultKind, .int v0_faultPlace, .int v0_undos, .ref a0_turnWord, .ref a0_turnFrom, .int v0_turns, .ref a0_pieceSign, .ref a0_pieceFrom, .int v0_pieces, .int v0_signs, .ref a0_runFrom, .ref a0_runLong, .ref a0_runPiece, .int v0_runs, .ref a0_alike, .ref a0_stood])), (a0_all, .inl (D.2 1, 5228, .inl g0_all))] sz) [(a0, .inr (9, [.ref a0_all, .ref a0_tape, .ref a0_isImage, .int v0_taped, .int v0_faultKind, .int v0_faultPlace, .int v0_undos, .ref a0_turnWord, .ref a0_turnFrom, .int v0_turns, .ref a0_pieceSign, .ref a0_pieceFrom, .int v0_pieces, .int v0_signs, .ref a0_runFrom, .ref a0_runLong, .ref a0_runPiece, .int v0_runs, .ref a0_alike, .ref a0_stood])), (a0_all, .inl (D.2 1, 5228, .inl res))]) (va_A [(a0, .inr (9, [.ref a0_all, .ref a0_tape, .ref a0_isImage, .int v0_taped, .int v0_faultKind, .int v0_faultPlace, .int v0_undos, .ref a0_turnWord, .ref a0_turnFrom, .int v0_turns, .ref a0_pieceSign, .ref a0_pieceFrom, .int v0_pieces, .int v0_signs, .ref a0_runFrom, .ref a0_runLong, .ref a0_runPiece, .int v0_runs, .ref a0_alike, .ref a0_stood])), (a0_all, .inl (D.2 1, 5228, .inl g0_all))] sz)) 0 0 (va_A [(a0, .inr (9, [.ref a0_all, .ref a0_tape, .ref a0_isImage, .int v0_taped, .int v0_faultKind, .int v0_faultPlace, .int v0_undos, .ref a0_turnWord, .ref a0_turnFrom, .int v0_turns, .ref a0_pieceSign, .ref a0_pieceFrom, .int v0_pieces, .int v0_signs, .ref a0_runFrom, .ref a0_runLong, .ref a0_runPiece, .int v0_runs, .ref a0_alike, .ref a0_stood])), (a0_all, .inl (D.2 1, 5228, .inl g0_all))] sz) := by
  refine Met.ofW (cc := cX12_laysComing) (maxL := 3) (ret := none) (by decide) rfl ?_
  intro p e s m args below meth c s₁ B hml hv
  obtain ⟨rfl, hsz, hP, hK, hD0⟩ := hv
  have hx := B.exec
  have hb := B.bytes
  have hr := B.returns
  have hts := atoms_spec (ws := wsX12_laysComing) B.pre
  have hown : s.vm.findClass RX12 = some m.cls := findClass_of_methodNamed B.named
  have hlocks := B.notSynchronized
  subst hsz
  have hD := hD0.self (sz := s.heap.size)
  generalize hAe : va_A [(a0, .inr (9, [.ref a0_all, .ref a0_tape, .ref a0_isImage, .int v0_taped, .int v0_faultKind, .int v0_faultPlace, .int v0_undos, .ref a0_turnWord, .ref a0_turnFrom, .int v0_turns, .ref a0_pieceSign, .ref a0_pieceFrom, .int v0_pieces, .int v0_signs, .ref a0_runFrom, .ref a0_runLong, .ref a0_runPiece, .int v0_runs, .ref a0_alike, .ref a0_stood])), (a0_all, .inl (D.2 1, 5228, .inl g0_all))] s.heap.size = A at hD ⊢
  have hA : ∀ q : Nat, s.heap.size ≤ q → A q := fun q h => by rw [← hAe]; exact Or.inr h
  have l7 := zat hts 1 (w := .fieldLink RX12 7 "TurnedWordsModel" "all" "[I") rfl
  have hwX12 : ∀ w ∈ u_ws RX12 TX12 20, w ∈ wsX12_laysComing := fun w h => List.mem_cons_of_mem _ (List.mem_append_right _ h)
  have hl := lv_entry ([.ref a0]) (n := 3) (Nat.le_of_ble_eq_true rfl)
  rw [lg_entry_eq]
  generalize (lg_sl ([.ref a0]) ++ List.replicate (3 - (lg_sl ([.ref a0])).length) Slot.unset).toArray = ls at hl ⊢
  have hl : lv_has ls 3 [(0, .ref a0)] := hl
  refine zStart (A := A) hP (fun Q0 H locs hQ hP hS => ?_)
  have k13 : ∀ K : Nat, ∀ (x1 : Int32) (g0_all : Nat → Int32) (H : Heap) (locs : List Loc) (ls : Array Slot), fX12_laysComing_13 N K x1 g0_all = some res → va_P D.1 vwCl [(a0, .inr (9, [.ref a0_all, .ref a0_tape, .ref a0_isImage, .int v0_taped, .int v0_faultKind, .int v0_faultPlace, .int v0_undos, .ref a0_turnWord, .ref a0_turnFrom, .int v0_turns, .ref a0_pieceSign, .ref a0_pieceFrom, .int v0_pieces, .int v0_signs, .ref a0_runFrom, .ref a0_runLong, .ref a0_runPiece, .int v0_runs, .ref a0_alike, .ref a0_stood])), (a0_all, .inl (D.2 1, 5228, .inl g0_all))] H → va_D A [(a0, .inr (9, [.ref a0_all, .ref a0_tape, .ref a0_isImage, .int v0_taped, .int v0_faultKind, .int v0_faultPlace, .int v0_undos, .ref a0_turnWord, .ref a0_turnFrom, .int v0_turns, .ref a0_pieceSign, .ref a0_pieceFrom, .int v0_pieces, .int v0_signs, .ref a0_runFrom, .ref a0_runLong, .ref a0_runPiece, .int v0_runs, .ref a0_alike, .ref a0_stood])), (a0_all, .inl (D.2 1, 5228, .inl g0_all))] → va_S A s.heap H locs → lv_has ls 3 [(0, .ref a0), (1, .int x1)] → W p l e (headSpec wsX12_laysComing ({ frames := 2, cells := 0, slots := 0, locals := 48 } : Room)).room s m ([.ref a0] : List Value).toArray below meth c H locs 0 0 Q0 (F0 m 13 ls []) := by
    intro K
    induction K with
    | zero =>
      intro x1 g0_all H locs ls hf
      rw [fX12_laysComing_13] at hf
      cases hf
    | succ K ih =>
      intro x1 g0_all H locs ls hf hP hD hS hl
      rw [fX12_laysComing_13] at hf
      refine lv_iload_n hx hb dX12_laysComing_13 rfl (lv_at hl 1 rfl) ?_
      refine lv_aload_n hx hb dX12_laysComing_14 rfl (lv_at hl 0 rfl) ?_
      refine va_get (D := D.1) (ci := 9) (v := .ref a0_all) (C := RX12) (T := TX12) (N := 20) hx hb hts hwX12 hown hK.1 hP 0 rfl rfl 0 (by decide) l7 (fun _ h9 => h9) rfl dX12_laysComing_15 ?_
      refine lv_sipush (v := 321) hx hb dX12_laysComing_18 (by decide) ?_
      obtain ⟨h_2, hf⟩ := gd hf
      refine va_iald hx hb hK.1 hP 1 1 rfl rfl h_2 dX12_laysComing_21 ?_
      refine lv_icmp_ge (tgt := 77) hx hb dX12_laysComing_22 (by decide) (fun c_3 => ?_) (fun c_3 => ?_)
      · replace hf := ip c_3 hf
        have he := Option.some.inj hf
        rw [hQ]
        exact W.vret hx hb hr (fun t ht hW => by rw [← he]; exact ⟨⟨(), rfl, trivial, by rw [ht]; exact hP, hD⟩, hS.F ht⟩) hS.2.2 dX12_laysComing_77
      · replace hf := im c_3 hf
        refine lv_iload_n hx hb dX12_laysComing_25 rfl (lv_at hl 1 rfl) ?_
        obtain ⟨r4, hr4, hf⟩ := bd hf
        refine zSi (As := [.int x1]) (rest := []) (wn := [(a0, .inr (9, [.ref a0_all, .ref a0_tape, .ref a0_isImage, .int v0_taped, .int v0_faultKind, .int v0_faultPlace, .int v0_undos, .ref a0_turnWord, .ref a0_turnFrom, .int v0_turns, .ref a0_pieceSign, .ref a0_pieceFrom, .int v0_pieces, .int v0_signs, .ref a0_runFrom, .ref a0_runLong, .ref a0_runPiece, .int v0_runs, .ref a0_alike, .ref a0_stood])), (a0_all, .inl (D.2 1, 5228, .inl g0_all))]) ⟨hx, hb, hml, hown, hts⟩ (mX12_editAt l D H.size x1 r4 hr4) (va_cwS 1 hts gX12_laysComing_X12_editAt rfl rfl rfl (by decide +kernel) ⟨Nat.le_of_ble_eq_true rfl, Nat.le_of_ble_eq_true rfl⟩) hK hP hD hS hA [] [0, 1] [0, 1] rfl (by decide) rfl (by decide) (by decide) rfl (by decide) rfl hl.1 rfl (Nat.le_of_ble_eq_true rfl) dX12_laysComing_26 ⟨Nat.zero_le _, Nat.zero_le _⟩ (fun H locs hP hD hS => ?_)
        refine lv_iconst (v := 1) hx hb dX12_laysComing_29 (by decide) ?_
        refine lv_iadd hx hb dX12_laysComing_30 ?_
        refine lv_istore_n (lv' := [(2, .int (r4 + (1 : Int32))), (0, .ref a0), (1, .int x1)]) hx hb dX12_laysComing_31 rfl hl (by decide) rfl (fun ls hl => ?_)
        refine lv_aload_n hx hb dX12_laysComing_32 rfl (lv_at hl 1 rfl) ?_
        refine va_get (D := D.1) (ci := 9) (v := .ref a0_all) (C := RX12) (T := TX12) (N := 20) hx hb hts hwX12 hown hK.1 hP 0 rfl rfl 0 (by decide) l7 (fun _ h9 => h9) rfl dX12_laysComing_33 ?_
        refine lv_iload_n hx hb dX12_laysComing_36 rfl (lv_at hl 2 rfl) ?_
        obtain ⟨r5, hr5, hf⟩ := bd hf
        refine zSi (As := [.int x1]) (rest := [.ref a0_all]) (wn := [(a0, .inr (9, [.ref a0_all, .ref a0_tape, .ref a0_isImage, .int v0_taped, .int v0_faultKind, .int v0_faultPlace, .int v0_undos, .ref a0_turnWord, .ref a0_turnFrom, .int v0_turns, .ref a0_pieceSign, .ref a0_pieceFrom, .int v0_pieces, .int v0_signs, .ref a0_runFrom, .ref a0_runLong, .ref a0_runPiece, .int v0_runs, .ref a0_alike, .ref a0_stood])), (a0_all, .inl (D.2 1, 5228, .inl g0_all))]) ⟨hx, hb, hml, hown, hts⟩ (mX12_editAt l D H.size x1 r5 hr5) (va_cwS 1 hts gX12_laysComing_X12_editAt rfl rfl rfl (by decide +kernel) ⟨Nat.le_of_ble_eq_true rfl, Nat.le_of_ble_eq_true rfl⟩) hK hP hD hS hA [] [0, 1] [0, 1] rfl (by decide) rfl (by decide) (by decide) rfl (by decide) rfl hl.1 rfl (Nat.le_of_ble_eq_true rfl) dX12_laysComing_37 ⟨Nat.zero_le _, Nat.zero_le _⟩ (fun H locs hP hD hS => ?_)
        obtain ⟨h_6, hf⟩ := gd hf
        refine va_iald hx hb hK.1 hP 1 1 rfl rfl h_6 dX12_laysComing_40 ?_
        refine lv_iconst (v := 1) hx hb dX12_laysComing_41 (by decide) ?_
        refine lv_icmp_ne (tgt := 63) hx hb dX12_laysComing_42 (by decide) (fun c_7 => ?_) (fun c_7 => ?_)
        · replace hf := im c_7 hf
          refine lv_aload_n hx hb dX12_laysComing_63 rfl (lv_at hl 1 rfl) ?_
          refine lv_sipush (v := 443) hx hb dX12_laysComing_64 (by decide) ?_
          refine lv_iload_n hx hb dX12_laysComing_67 rfl (lv_at hl 0 rfl) ?_
          obtain ⟨r8, hr8, hf⟩ := bd hf
          refine zVv (As := [.int (443 : Int32), .int (r4 + (1 : Int32))]) (rest := []) (ci := 9) (q0 := 0) (wn := [(a0, .inr (9, [.ref a0_all, .ref a0_tape, .ref a0_isImage, .int v0_taped, .int v0_faultKind, .int v0_faultPlace, .int v0_undos, .ref a0_turnWord, .ref a0_turnFrom, .int v0_turns, .ref a0_pieceSign, .ref a0_pieceFrom, .int v0_pieces, .int v0_signs, .ref a0_runFrom, .ref a0_runLong, .ref a0_runPiece, .int v0_runs, .ref a0_alike, .ref a0_stood])), (a0_all, .inl (D.2 1, 5228, .inl r8))]) ⟨hx, hb, hml, hown, hts⟩ (mX12_comes l D a0 a0_all a0_tape a0_isImage a0_turnWord a0_turnFrom a0_pieceSign a0_pieceFrom a0_runFrom a0_runLong a0_runPiece a0_alike a0_stood H.size v0_taped v0_faultKind v0_faultPlace v0_undos v0_turns v0_pieces v0_signs v0_runs g0_all (443 : Int32) (r4 + (1 : Int32)) N r8 hr8) (cwV 2 hts gX12_laysComing_X12_comes rfl rfl rfl (by decide +kernel) ⟨Nat.le_of_ble_eq_true rfl, Nat.le_of_ble_eq_true rfl⟩) hK hP hD hS hA [0, 1] [] [0, 1] rfl (by decide) rfl (by decide) (by decide) rfl (by decide) rfl rfl rfl hl.1 rfl (Nat.le_of_ble_eq_true rfl) dX12_laysComing_68 ⟨Nat.zero_le _, Nat.zero_le _⟩ (fun H locs hP hD hS => ?_)
          refine lv_iinc (v := (x1 + (1 : Int32))) (lv' := [(1, .int (x1 + (1 : Int32))), (2, .int (r4 + (1 : Int32))), (0, .ref a0)]) hx hb dX12_laysComing_71 hl (k := 2) rfl rfl (by decide) rfl (fun ls hl => ?_)
          refine lv_goto (tgt := 13) hx hb dX12_laysComing_74 (by decide) ?_
          exact ih (x1 + (1 : Int32)) r8 H locs ls hf hP hD hS (lv_sub hl [2, 0] rfl)
        · replace hf := ip c_7 hf
          refine lv_aload_n hx hb dX12_laysComing_45 rfl (lv_at hl 1 rfl) ?_
          refine lv_sipush (v := 443) hx hb dX12_laysComing_46 (by decide) ?_
          refine lv_aload_n hx hb dX12_laysComing_49 rfl (lv_at hl 1 rfl) ?_
          refine lv_sipush (v := 443) hx hb dX12_laysComing_50 (by decide) ?_
          refine lv_iload_n hx hb dX12_laysComing_53 rfl (lv_at hl 0 rfl) ?_
          obtain ⟨r9, hr9, hf⟩ := bd hf
          refine zVi (As := [.int (443 : Int32), .int (r4 + (1 : Int32))]) (rest := [.int (443 : Int32), .ref a0]) (ci := 9) (q0 := 0) (wn := [(a0, .inr (9, [.ref a0_all, .ref a0_tape, .ref a0_isImage, .int v0_taped, .int v0_faultKind, .int v0_faultPlace, .int v0_undos, .ref a0_turnWord, .ref a0_turnFrom, .int v0_turns, .ref a0_pieceSign, .ref a0_pieceFrom, .int v0_pieces, .int v0_signs, .ref a0_runFrom, .ref a0_runLong, .ref a0_runPiece, .int v0_runs, .ref a0_alike, .ref a0_stood])), (a0_all, .inl (D.2 1, 5228, .inl g0_all))]) ⟨hx, hb, hml, hown, hts⟩ (mX12_numberOf l D a0 a0_all a0_tape a0_isImage a0_turnWord a0_turnFrom a0_pieceSign a0_pieceFrom a0_runFrom a0_runLong a0_runPiece a0_alike a0_stood H.size v0_taped v0_faultKind v0_faultPlace v0_undos v0_turns v0_pieces v0_signs v0_runs g0_all (443 : Int32) (r4 + (1 : Int32)) N r9 hr9) (cwV 2 hts gX12_laysComing_X12_numberOf rfl rfl rfl (by decide +kernel) ⟨Nat.le_of_ble_eq_true rfl, Nat.le_of_ble_eq_true rfl⟩) hK hP hD hS hA [0, 1] [] [0, 1] rfl (by decide) rfl (by decide) (by decide) rfl (by decide) rfl rfl rfl hl.1 rfl (Nat.le_of_ble_eq_true rfl) dX12_laysComing_54 ⟨Nat.zero_le _, Nat.zero_le _⟩ (fun H locs hP hD hS => ?_)
          obtain ⟨r10, hr10, hf⟩ := bd hf
          refine zVv (As := [.int (443 : Int32), .int r9]) (rest := []) (ci := 9) (q0 := 0) (wn := [(a0, .inr (9, [.ref a0_all, .ref a0_tape, .ref a0_isImage, .int v0_taped, .int v0_faultKind, .int v0_faultPlace, .int v0_undos, .ref a0_turnWord, .ref a0_turnFrom, .int v0_turns, .ref a0_pieceSign, .ref a0_pieceFrom, .int v0_pieces, .int v0_signs, .ref a0_runFrom, .ref a0_runLong, .ref a0_runPiece, .int v0_runs, .ref a0_alike, .ref a0_stood])), (a0_all, .inl (D.2 1, 5228, .inl r10))]) ⟨hx, hb, hml, hown, hts⟩ (mX12_goes l D a0 a0_all a0_tape a0_isImage a0_turnWord a0_turnFrom a0_pieceSign a0_pieceFrom a0_runFrom a0_runLong a0_runPiece a0_alike a0_stood H.size v0_taped v0_faultKind v0_faultPlace v0_undos v0_turns v0_pieces v0_signs v0_runs g0_all (443 : Int32) r9 N r10 hr10) (cwV 2 hts gX12_laysComing_X12_goes rfl rfl rfl (by decide +kernel) ⟨Nat.le_of_ble_eq_true rfl, Nat.le_of_ble_eq_true rfl⟩) hK hP hD hS hA [0, 1] [] [0, 1] rfl (by decide) rfl (by decide) (by decide) rfl (by decide) rfl rfl rfl hl.1 rfl (Nat.le_of_ble_eq_true rfl) dX12_laysComing_57 ⟨Nat.zero_le _, Nat.zero_le _⟩ (fun H locs hP hD hS => ?_)
          refine lv_goto (tgt := 71) hx hb dX12_laysComing_60 (by decide) ?_
          refine lv_iinc (v := (x1 + (1 : Int32))) (lv' := [(1, .int (x1 + (1 : Int32))), (2, .int (r4 + (1 : Int32))), (0, .ref a0)]) hx hb dX12_laysComing_71 hl (k := 2) rfl rfl (by decide) rfl (fun ls hl => ?_)
          refine lv_goto (tgt := 13) hx hb dX12_laysComing_74 (by decide) ?_
          exact ih (x1 + (1 : Int32)) r10 H locs ls hf hP hD hS (lv_sub hl [2, 0] rfl)
  unfold fX12_laysComing at hf
  refine lv_aload_n hx hb dX12_laysComing_0 rfl (lv_at hl 0 rfl) ?_
  refine lv_iconst (v := 0) hx hb dX12_laysComing_1 (by decide) ?_
  refine lv_sipush (v := 443) hx hb dX12_laysComing_2 (by decide) ?_
  refine lv_sipush (v := 321) hx hb dX12_laysComing_5 (by decide) ?_
  obtain ⟨r1, hr1, hf⟩ := bd hf
  refine zVv (As := [.int (0 : Int32), .int (443 : Int32), .int (321 : Int32)]) (rest := []) (ci := 9) (q0 := 0) (wn := [(a0, .inr (9, [.ref a0_all, .ref a0_tape, .ref a0_isImage, .int v0_taped, .int v0_faultKind, .int v0_faultPlace, .int v0_undos, .ref a0_turnWord, .ref a0_turnFrom, .int v0_turns, .ref a0_pieceSign, .ref a0_pieceFrom, .int v0_pieces, .int v0_signs, .ref a0_runFrom, .ref a0_runLong, .ref a0_runPiece, .int v0_runs, .ref a0_alike, .ref a0_stood])), (a0_all, .inl (D.2 1, 5228, .inl r1))]) ⟨hx, hb, hml, hown, hts⟩ (mX12_copies l D a0 a0_all a0_tape a0_isImage a0_turnWord a0_turnFrom a0_pieceSign a0_pieceFrom a0_runFrom a0_runLong a0_runPiece a0_alike a0_stood H.size v0_taped v0_faultKind v0_faultPlace v0_undos v0_turns v0_pieces v0_signs v0_runs g0_all (0 : Int32) (443 : Int32) (321 : Int32) N r1 hr1) (cwV 3 hts gX12_laysComing_X12_copies rfl rfl rfl (by decide +kernel) ⟨Nat.le_of_ble_eq_true rfl, Nat.le_of_ble_eq_true rfl⟩) hK hP hD hS hA [0, 1] [] [0, 1] rfl (by decide) rfl (by decide) (by decide) rfl (by decide) rfl rfl rfl hl.1 rfl (Nat.le_of_ble_eq_true rfl) dX12_laysComing_8 ⟨Nat.zero_le _, Nat.zero_le _⟩ (fun H locs hP hD hS => ?_)
  refine lv_iconst (v := 0) hx hb dX12_laysComing_11 (by decide) ?_
  refine lv_istore_n (lv' := [(1, .int (0 : Int32)), (0, .ref a0)]) hx hb dX12_laysComing_12 rfl hl (by decide) rfl (fun ls hl => ?_)
  exact k13 N (0 : Int32) r1 H locs ls hf hP hD hS (lv_sub hl [1, 0] rfl)
def fX12_from_8 (N : Nat) (p1 : Int32) (g0_all : Nat → Int32) : Option (Int32 × (Nat → Int32)) :=
  if p1 = (0 : Int32) then
    some ((0 : Int32), g0_all)
  else
    some ((443 : Int32), g0_all)
def fX12_from (N : Nat) (g0_all : Nat → Int32) (p1 : Int32) : Option (Int32 × (Nat → Int32)) :=
  if p1 = (0 : Int32) then
    fX12_from_8 N p1 g0_all
  else
    Option.bind (fX12_laysComing N g0_all) fun r2 =>
    fX12_from_8 N p1 r2
set_option maxHeartbeats 4000000 in
set_option maxRecDepth 100000 in
theorem mX12_from (l : Launch) (D : zG) (a0 : Nat) (a0_all : Nat) (a0_tape : Nat) (a0_isImage : Nat) (a0_turnWord : Nat) (a0_turnFrom : Nat) (a0_pieceSign : Nat) (a0_pieceFrom : Nat) (a0_runFrom : Nat) (a0_runLong : Nat) (a0_runPiece : Nat) (a0_alike : Nat) (a0_stood : Nat) (sz : Nat)  (v0_taped : Int32) (v0_faultKind : Int32) (v0_faultPlace : Int32) (v0_undos : Int32) (v0_turns : Int32) (v0_pieces : Int32) (v0_signs : Int32) (v0_runs : Int32) (g0_all : Nat → Int32) (p1 : Int32) (N : Nat) (res : Int32 × (Nat → Int32)) (hf : fX12_from N g0_all p1 = some res) : Met l yX12_from wsX12_from ({ frames := 3, cells := 0, slots := 0, locals := 70 } : Room) (va_Pc [.ref a0, .int p1] (zW D sz [(a0, .inr (9, [.ref a0_all, .ref a0_tape, .ref a0_isImage, .int v0_taped, .int v0_faultKind, .int v0_faultPlace, .int v0_undos, .ref a0_turnWord, .ref a0_turnFrom, .int v0_turns, .ref a0_pieceSign, .ref a0_pieceFrom, .int v0_pieces, .int v0_signs, .ref a0_runFrom, .ref a0_runLong, .ref a0_runPiece, .int v0_runs, .ref a0_alike, .ref a0_stood])), (a0_all, .inl (D.2 1, 5228, .inl g0_all))])) (va_Qi (fun r (_ : Unit) => r = res.1) (fun _ => zB D (va_A [(a0, .inr (9, [.ref a0_all, .ref a0_tape, .ref a0_isImage, .int v0_taped, .int v0_faultKind, .int v0_faultPlace, .int v0_undos, .ref a0_turnWord, .ref a0_turnFrom, .int v0_turns, .ref a0_pieceSign, .ref a0_pieceFrom, .int v0_pieces, .int v0_signs, .ref a0_runFrom, .ref a0_runLong, .ref a0_runPiece, .int v0_runs, .ref a0_alike, .ref a0_stood])), (a0_all, .inl (D.2 1, 5228, .inl g0_all))] sz) [(a0, .inr (9, [.ref a0_all, .ref a0_tape, .ref a0_isImage, .int v0_taped, .int v0_faultKind, .int v0_faultPlace, .int v0_undos, .ref a0_turnWord, .ref a0_turnFrom, .int v0_turns, .ref a0_pieceSign, .ref a0_pieceFrom, .int v0_pieces, .int v0_signs, .ref a0_runFrom, .ref a0_runLong, .ref a0_runPiece, .int v0_runs, .ref a0_alike, .ref a0_stood])), (a0_all, .inl (D.2 1, 5228, .inl res.2))]) (va_A [(a0, .inr (9, [.ref a0_all, .ref a0_tape, .ref a0_isImage, .int v0_taped, .int v0_faultKind, .int v0_faultPlace, .int v0_undos, .ref a0_turnWord, .ref a0_turnFrom, .int v0_turns, .ref a0_pieceSign, .ref a0_pieceFrom, .int v0_pieces, .int v0_signs, .ref a0_runFrom, .ref a0_runLong, .ref a0_runPiece, .int v0_runs, .ref a0_alike, .ref a0_stood])), (a0_all, .inl (D.2 1, 5228, .inl g0_all))] sz)) 0 0 (va_A [(a0, .inr (9, [.ref a0_all, .ref a0_tape, .ref a0_isImage, .int v0_taped, .int v0_faultKind, .int v0_faultPlace, .int v0_undos, .ref a0_turnWord, .ref a0_turnFrom, .int v0_turns, .ref a0_pieceSign, .ref a0_pieceFrom, .int v0_pieces, .int v0_signs, .ref a0_runFrom, .ref a0_runLong, .ref a0_runPiece, .int v0_runs, .ref a0_alike, .ref a0_stood])), (a0_all, .inl (D.2 1, 5228, .inl g0_all))] sz) := by
  refine Met.ofW (cc := cX12_from) (maxL := 2) (ret := (some .int)) (by decide) rfl ?_
  intro p e s m args below meth c s₁ B hml hv
  obtain ⟨rfl, hsz, hP, hK, hD0⟩ := hv
  have hx := B.exec
  have hb := B.bytes
  have hr := B.returns
  have hts := atoms_spec (ws := wsX12_from) B.pre
  have hown : s.vm.findClass RX12 = some m.cls := findClass_of_methodNamed B.named
  have hlocks := B.notSynchronized
  subst hsz
  have hD := hD0.self (sz := s.heap.size)
  generalize hAe : va_A [(a0, .inr (9, [.ref a0_all, .ref a0_tape, .ref a0_isImage, .int v0_taped, .int v0_faultKind, .int v0_faultPlace, .int v0_undos, .ref a0_turnWord, .ref a0_turnFrom, .int v0_turns, .ref a0_pieceSign, .ref a0_pieceFrom, .int v0_pieces, .int v0_signs, .ref a0_runFrom, .ref a0_runLong, .ref a0_runPiece, .int v0_runs, .ref a0_alike, .ref a0_stood])), (a0_all, .inl (D.2 1, 5228, .inl g0_all))] s.heap.size = A at hD ⊢
  have hA : ∀ q : Nat, s.heap.size ≤ q → A q := fun q h => by rw [← hAe]; exact Or.inr h
  have hl := lv_entry ([.ref a0, .int p1]) (n := 2) (Nat.le_of_ble_eq_true rfl)
  rw [lg_entry_eq]
  generalize (lg_sl ([.ref a0, .int p1]) ++ List.replicate (2 - (lg_sl ([.ref a0, .int p1])).length) Slot.unset).toArray = ls at hl ⊢
  have hl : lv_has ls 2 [(0, .ref a0), (1, .int p1)] := hl
  refine zStart (A := A) hP (fun Q0 H locs hQ hP hS => ?_)
  have k8 : ∀ (g0_all : Nat → Int32) (H : Heap) (locs : List Loc) (ls : Array Slot), fX12_from_8 N p1 g0_all = some res → va_P D.1 vwCl [(a0, .inr (9, [.ref a0_all, .ref a0_tape, .ref a0_isImage, .int v0_taped, .int v0_faultKind, .int v0_faultPlace, .int v0_undos, .ref a0_turnWord, .ref a0_turnFrom, .int v0_turns, .ref a0_pieceSign, .ref a0_pieceFrom, .int v0_pieces, .int v0_signs, .ref a0_runFrom, .ref a0_runLong, .ref a0_runPiece, .int v0_runs, .ref a0_alike, .ref a0_stood])), (a0_all, .inl (D.2 1, 5228, .inl g0_all))] H → va_D A [(a0, .inr (9, [.ref a0_all, .ref a0_tape, .ref a0_isImage, .int v0_taped, .int v0_faultKind, .int v0_faultPlace, .int v0_undos, .ref a0_turnWord, .ref a0_turnFrom, .int v0_turns, .ref a0_pieceSign, .ref a0_pieceFrom, .int v0_pieces, .int v0_signs, .ref a0_runFrom, .ref a0_runLong, .ref a0_runPiece, .int v0_runs, .ref a0_alike, .ref a0_stood])), (a0_all, .inl (D.2 1, 5228, .inl g0_all))] → va_S A s.heap H locs → lv_has ls 2 [(1, .int p1)] → W p l e (headSpec wsX12_from ({ frames := 3, cells := 0, slots := 0, locals := 70 } : Room)).room s m ([.ref a0, .int p1] : List Value).toArray below meth c H locs 0 0 Q0 (F0 m 8 ls []) := by
    intro g0_all H locs ls hf hP hD hS hl
    unfold fX12_from_8 at hf
    refine lv_iload_n hx hb dX12_from_8 rfl (lv_at hl 0 rfl) ?_
    refine lv_if_eq (tgt := 18) hx hb dX12_from_9 (by decide) (fun c_3 => ?_) (fun c_3 => ?_)
    · replace hf := ip c_3 hf
      refine lv_iconst (v := 0) hx hb dX12_from_18 (by decide) ?_
      have he := Option.some.inj hf
      rw [hQ]
      exact W.iret (v := (0 : Int32)) hx hb hr (fun t ht hW => by rw [← he]; exact ⟨⟨(0 : Int32), (), rfl, rfl, by rw [ht]; exact hP, hD⟩, hS.F ht⟩) hS.2.2 dX12_from_19
    · replace hf := im c_3 hf
      refine lv_sipush (v := 443) hx hb dX12_from_12 (by decide) ?_
      refine lv_goto (tgt := 19) hx hb dX12_from_15 (by decide) ?_
      have he := Option.some.inj hf
      rw [hQ]
      exact W.iret (v := (443 : Int32)) hx hb hr (fun t ht hW => by rw [← he]; exact ⟨⟨(443 : Int32), (), rfl, rfl, by rw [ht]; exact hP, hD⟩, hS.F ht⟩) hS.2.2 dX12_from_19
  unfold fX12_from at hf
  refine lv_iload_n hx hb dX12_from_0 rfl (lv_at hl 1 rfl) ?_
  refine lv_if_eq (tgt := 8) hx hb dX12_from_1 (by decide) (fun c_1 => ?_) (fun c_1 => ?_)
  · replace hf := ip c_1 hf
    exact k8 g0_all H locs ls hf hP hD hS (lv_sub hl [1] rfl)
  · replace hf := im c_1 hf
    refine lv_aload_n hx hb dX12_from_4 rfl (lv_at hl 0 rfl) ?_
    obtain ⟨r2, hr2, hf⟩ := bd hf
    refine zVv (As := []) (rest := []) (ci := 9) (q0 := 0) (wn := [(a0, .inr (9, [.ref a0_all, .ref a0_tape, .ref a0_isImage, .int v0_taped, .int v0_faultKind, .int v0_faultPlace, .int v0_undos, .ref a0_turnWord, .ref a0_turnFrom, .int v0_turns, .ref a0_pieceSign, .ref a0_pieceFrom, .int v0_pieces, .int v0_signs, .ref a0_runFrom, .ref a0_runLong, .ref a0_runPiece, .int v0_runs, .ref a0_alike, .ref a0_stood])), (a0_all, .inl (D.2 1, 5228, .inl r2))]) ⟨hx, hb, hml, hown, hts⟩ (mX12_laysComing l D a0 a0_all a0_tape a0_isImage a0_turnWord a0_turnFrom a0_pieceSign a0_pieceFrom a0_runFrom a0_runLong a0_runPiece a0_alike a0_stood H.size v0_taped v0_faultKind v0_faultPlace v0_undos v0_turns v0_pieces v0_signs v0_runs g0_all N r2 hr2) (cwV 0 hts gX12_from_X12_laysComing rfl rfl rfl (by decide +kernel) ⟨Nat.le_of_ble_eq_true rfl, Nat.le_of_ble_eq_true rfl⟩) hK hP hD hS hA [0, 1] [] [0, 1] rfl (by decide) rfl (by decide) (by decide) rfl (by decide) rfl rfl rfl hl.1 rfl (Nat.le_of_ble_eq_true rfl) dX12_from_5 ⟨Nat.zero_le _, Nat.zero_le _⟩ (fun H locs hP hD hS => ?_)
    exact k8 r2 H locs ls hf hP hD hS (lv_sub hl [1] rfl)
def fX12_signAt (g0_all : Nat → Int32) (p1 : Int32) (p2 : Int32) (p3 : Int32) : Option (Int32) :=
  if p1 < 0 ∨ 5228 ≤ (p1).toNatClampNeg then none else
  if p3 ≤ (g0_all (p1).toNatClampNeg) then
    if (g0_all (p1).toNatClampNeg) ≤ (p2 + p3) then
      if (p2 + p3) = (g0_all (p1).toNatClampNeg) then
        some ((36 : Int32))
      else
        if (((p1 + p2) + p3) - (g0_all (p1).toNatClampNeg)) < 0 ∨ 5228 ≤ ((((p1 + p2) + p3) - (g0_all (p1).toNatClampNeg))).toNatClampNeg then none else
        some ((g0_all ((((p1 + p2) + p3) - (g0_all (p1).toNatClampNeg))).toNatClampNeg))
    else
      if (((p1 + (1 : Int32)) + p2) + p3) < 0 ∨ 5228 ≤ ((((p1 + (1 : Int32)) + p2) + p3)).toNatClampNeg then none else
      some ((g0_all ((((p1 + (1 : Int32)) + p2) + p3)).toNatClampNeg))
  else
    some ((0 : Int32))
set_option maxHeartbeats 4000000 in
set_option maxRecDepth 100000 in
theorem mX12_signAt (l : Launch) (D : zG) (a0 : Nat) (a0_all : Nat) (a0_tape : Nat) (a0_isImage : Nat) (a0_turnWord : Nat) (a0_turnFrom : Nat) (a0_pieceSign : Nat) (a0_pieceFrom : Nat) (a0_runFrom : Nat) (a0_runLong : Nat) (a0_runPiece : Nat) (a0_alike : Nat) (a0_stood : Nat) (sz : Nat)  (v0_taped : Int32) (v0_faultKind : Int32) (v0_faultPlace : Int32) (v0_undos : Int32) (v0_turns : Int32) (v0_pieces : Int32) (v0_signs : Int32) (v0_runs : Int32) (g0_all : Nat → Int32) (p1 : Int32) (p2 : Int32) (p3 : Int32) (res : Int32) (hf : fX12_signAt g0_all p1 p2 p3 = some res) : Met l yX12_signAt wsX12_signAt ({ frames := 0, cells := 0, slots := 0, locals := 0 } : Room) (va_Pc [.ref a0, .int p1, .int p2, .int p3] (zW D sz [(a0, .inr (9, [.ref a0_all, .ref a0_tape, .ref a0_isImage, .int v0_taped, .int v0_faultKind, .int v0_faultPlace, .int v0_undos, .ref a0_turnWord, .ref a0_turnFrom, .int v0_turns, .ref a0_pieceSign, .ref a0_pieceFrom, .int v0_pieces, .int v0_signs, .ref a0_runFrom, .ref a0_runLong, .ref a0_runPiece, .int v0_runs, .ref a0_alike, .ref a0_stood])), (a0_all, .inl (D.2 1, 5228, .inl g0_all))])) (va_Qi (fun r (_ : Unit) => r = res) (fun _ => zB D (va_A [(a0, .inr (9, [.ref a0_all, .ref a0_tape, .ref a0_isImage, .int v0_taped, .int v0_faultKind, .int v0_faultPlace, .int v0_undos, .ref a0_turnWord, .ref a0_turnFrom, .int v0_turns, .ref a0_pieceSign, .ref a0_pieceFrom, .int v0_pieces, .int v0_signs, .ref a0_runFrom, .ref a0_runLong, .ref a0_runPiece, .int v0_runs, .ref a0_alike, .ref a0_stood])), (a0_all, .inl (D.2 1, 5228, .inl g0_all))] sz) [(a0, .inr (9, [.ref a0_all, .ref a0_tape, .ref a0_isImage, .int v0_taped, .int v0_faultKind, .int v0_faultPlace, .int v0_undos, .ref a0_turnWord, .ref a0_turnFrom, .int v0_turns, .ref a0_pieceSign, .ref a0_pieceFrom, .int v0_pieces, .int v0_signs, .ref a0_runFrom, .ref a0_runLong, .ref a0_runPiece, .int v0_runs, .ref a0_alike, .ref a0_stood])), (a0_all, .inl (D.2 1, 5228, .inl g0_all))]) (va_A [(a0, .inr (9, [.ref a0_all, .ref a0_tape, .ref a0_isImage, .int v0_taped, .int v0_faultKind, .int v0_faultPlace, .int v0_undos, .ref a0_turnWord, .ref a0_turnFrom, .int v0_turns, .ref a0_pieceSign, .ref a0_pieceFrom, .int v0_pieces, .int v0_signs, .ref a0_runFrom, .ref a0_runLong, .ref a0_runPiece, .int v0_runs, .ref a0_alike, .ref a0_stood])), (a0_all, .inl (D.2 1, 5228, .inl g0_all))] sz)) 0 0 (va_A [(a0, .inr (9, [.ref a0_all, .ref a0_tape, .ref a0_isImage, .int v0_taped, .int v0_faultKind, .int v0_faultPlace, .int v0_undos, .ref a0_turnWord, .ref a0_turnFrom, .int v0_turns, .ref a0_pieceSign, .ref a0_pieceFrom, .int v0_pieces, .int v0_signs, .ref a0_runFrom, .ref a0_runLong, .ref a0_runPiece, .int v0_runs, .ref a0_alike, .ref a0_stood])), (a0_all, .inl (D.2 1, 5228, .inl g0_all))] sz) := by
  refine Met.ofW (cc := cX12_signAt) (maxL := 5) (ret := (some .int)) (by decide) rfl ?_
  intro p e s m args below meth c s₁ B hml hv
  obtain ⟨rfl, hsz, hP, hK, hD0⟩ := hv
  have hx := B.exec
  have hb := B.bytes
  have hr := B.returns
  have hts := atoms_spec (ws := wsX12_signAt) B.pre
  have hown : s.vm.findClass RX12 = some m.cls := findClass_of_methodNamed B.named
  have hlocks := B.notSynchronized
  subst hsz
  have hD := hD0.self (sz := s.heap.size)
  generalize hAe : va_A [(a0, .inr (9, [.ref a0_all, .ref a0_tape, .ref a0_isImage, .int v0_taped, .int v0_faultKind, .int v0_faultPlace, .int v0_undos, .ref a0_turnWord, .ref a0_turnFrom, .int v0_turns, .ref a0_pieceSign, .ref a0_pieceFrom, .int v0_pieces, .int v0_signs, .ref a0_runFrom, .ref a0_runLong, .ref a0_runPiece, .int v0_runs, .ref a0_alike, .ref a0_stood])), (a0_all, .inl (D.2 1, 5228, .inl g0_all))] s.heap.size = A at hD ⊢
  have hA : ∀ q : Nat, s.heap.size ≤ q → A q := fun q h => by rw [← hAe]; exact Or.inr h
  have l7 := zat hts 1 (w := .fieldLink RX12 7 "TurnedWordsModel" "all" "[I") rfl
  have hwX12 : ∀ w ∈ u_ws RX12 TX12 20, w ∈ wsX12_signAt := fun w h => List.mem_cons_of_mem _ (List.mem_append_right _ h)
  have hl := lv_entry ([.ref a0, .int p1, .int p2, .int p3]) (n := 5) (Nat.le_of_ble_eq_true rfl)
  rw [lg_entry_eq]
  generalize (lg_sl ([.ref a0, .int p1, .int p2, .int p3]) ++ List.replicate (5 - (lg_sl ([.ref a0, .int p1, .int p2, .int p3])).length) Slot.unset).toArray = ls at hl ⊢
  have hl : lv_has ls 5 [(0, .ref a0), (1, .int p1), (2, .int p2), (3, .int p3)] := hl
  refine zStart (A := A) hP (fun Q0 H locs hQ hP hS => ?_)
  unfold fX12_signAt at hf
  refine lv_aload_n hx hb dX12_signAt_0 rfl (lv_at hl 0 rfl) ?_
  refine va_get (D := D.1) (ci := 9) (v := .ref a0_all) (C := RX12) (T := TX12) (N := 20) hx hb hts hwX12 hown hK.1 hP 0 rfl rfl 0 (by decide) l7 (fun _ h9 => h9) rfl dX12_signAt_1 ?_
  refine lv_iload_n hx hb dX12_signAt_4 rfl (lv_at hl 1 rfl) ?_
  obtain ⟨h_1, hf⟩ := gd hf
  refine va_iald hx hb hK.1 hP 1 1 rfl rfl h_1 dX12_signAt_5 ?_
  refine lv_istore (lv' := [(4, .int (g0_all (p1).toNatClampNeg)), (0, .ref a0), (1, .int p1), (2, .int p2), (3, .int p3)]) hx hb dX12_signAt_6 hl (by decide) rfl (fun ls hl => ?_)
  refine lv_iload_n hx hb dX12_signAt_8 rfl (lv_at hl 4 rfl) ?_
  refine lv_iload hx hb dX12_signAt_9 (lv_at hl 0 rfl) ?_
  refine lv_icmp_le (tgt := 16) hx hb dX12_signAt_11 (by decide) (fun c_2 => ?_) (fun c_2 => ?_)
  · replace hf := ip c_2 hf
    refine lv_iload_n hx hb dX12_signAt_16 rfl (lv_at hl 3 rfl) ?_
    refine lv_iload_n hx hb dX12_signAt_17 rfl (lv_at hl 4 rfl) ?_
    refine lv_iadd hx hb dX12_signAt_18 ?_
    refine lv_iload hx hb dX12_signAt_19 (lv_at hl 0 rfl) ?_
    refine lv_icmp_ge (tgt := 39) hx hb dX12_signAt_21 (by decide) (fun c_3 => ?_) (fun c_3 => ?_)
    · replace hf := ip c_3 hf
      refine lv_iload_n hx hb dX12_signAt_39 rfl (lv_at hl 3 rfl) ?_
      refine lv_iload_n hx hb dX12_signAt_40 rfl (lv_at hl 4 rfl) ?_
      refine lv_iadd hx hb dX12_signAt_41 ?_
      refine lv_iload hx hb dX12_signAt_42 (lv_at hl 0 rfl) ?_
      refine lv_icmp_ne (tgt := 52) hx hb dX12_signAt_44 (by decide) (fun c_4 => ?_) (fun c_4 => ?_)
      · replace hf := im c_4 hf
        refine lv_aload_n hx hb dX12_signAt_52 rfl (lv_at hl 1 rfl) ?_
        refine va_get (D := D.1) (ci := 9) (v := .ref a0_all) (C := RX12) (T := TX12) (N := 20) hx hb hts hwX12 hown hK.1 hP 0 rfl rfl 0 (by decide) l7 (fun _ h9 => h9) rfl dX12_signAt_53 ?_
        refine lv_iload_n hx hb dX12_signAt_56 rfl (lv_at hl 2 rfl) ?_
        refine lv_iload_n hx hb dX12_signAt_57 rfl (lv_at hl 3 rfl) ?_
        refine lv_iadd hx hb dX12_signAt_58 ?_
        refine lv_iload_n hx hb dX12_signAt_59 rfl (lv_at hl 4 rfl) ?_
        refine lv_iadd hx hb dX12_signAt_60 ?_
        refine lv_iload hx hb dX12_signAt_61 (lv_at hl 0 rfl) ?_
        refine lv_isub hx hb dX12_signAt_63 ?_
        obtain ⟨h_5, hf⟩ := gd hf
        refine va_iald hx hb hK.1 hP 1 1 rfl rfl h_5 dX12_signAt_64 ?_
        have he := Option.some.inj hf
        rw [hQ]
        exact W.iret (v := (g0_all ((((p1 + p2) + p3) - (g0_all (p1).toNatClampNeg))).toNatClampNeg)) hx hb hr (fun t ht hW => by rw [← he]; exact ⟨⟨(g0_all ((((p1 + p2) + p3) - (g0_all (p1).toNatClampNeg))).toNatClampNeg), (), rfl, rfl, by rw [ht]; exact hP, hD⟩, hS.F ht⟩) hS.2.2 dX12_signAt_65
      · replace hf := ip c_4 hf
        refine lv_bipush (v := 36) hx hb dX12_signAt_47 (by decide) ?_
        refine lv_goto (tgt := 65) hx hb dX12_signAt_49 (by decide) ?_
        have he := Option.some.inj hf
        rw [hQ]
        exact W.iret (v := (36 : Int32)) hx hb hr (fun t ht hW => by rw [← he]; exact ⟨⟨(36 : Int32), (), rfl, rfl, by rw [ht]; exact hP, hD⟩, hS.F ht⟩) hS.2.2 dX12_signAt_65
    · replace hf := im c_3 hf
      refine lv_aload_n hx hb dX12_signAt_24 rfl (lv_at hl 1 rfl) ?_
      refine va_get (D := D.1) (ci := 9) (v := .ref a0_all) (C := RX12) (T := TX12) (N := 20) hx hb hts hwX12 hown hK.1 hP 0 rfl rfl 0 (by decide) l7 (fun _ h9 => h9) rfl dX12_signAt_25 ?_
      refine lv_iload_n hx hb dX12_signAt_28 rfl (lv_at hl 2 rfl) ?_
      refine lv_iconst (v := 1) hx hb dX12_signAt_29 (by decide) ?_
      refine lv_iadd hx hb dX12_signAt_30 ?_
      refine lv_iload_n hx hb dX12_signAt_31 rfl (lv_at hl 3 rfl) ?_
      refine lv_iadd hx hb dX12_signAt_32 ?_
      refine lv_iload_n hx hb dX12_signAt_33 rfl (lv_at hl 4 rfl) ?_
      refine lv_iadd hx hb dX12_signAt_34 ?_
      obtain ⟨h_6, hf⟩ := gd hf
      refine va_iald hx hb hK.1 hP 1 1 rfl rfl h_6 dX12_signAt_35 ?_
      refine lv_goto (tgt := 65) hx hb dX12_signAt_36 (by decide) ?_
      have he := Option.some.inj hf
      rw [hQ]
      exact W.iret (v := (g0_all ((((p1 + (1 : Int32)) + p2) + p3)).toNatClampNeg)) hx hb hr (fun t ht hW => by rw [← he]; exact ⟨⟨(g0_all ((((p1 + (1 : Int32)) + p2) + p3)).toNatClampNeg), (), rfl, rfl, by rw [ht]; exact hP, hD⟩, hS.F ht⟩) hS.2.2 dX12_signAt_65
  · replace hf := im c_2 hf
    refine lv_iconst (v := 0) hx hb dX12_signAt_14 (by decide) ?_
    have he := Option.some.inj hf
    rw [hQ]
    exact W.iret (v := (0 : Int32)) hx hb hr (fun t ht hW => by rw [← he]; exact ⟨⟨(0 : Int32), (), rfl, rfl, by rw [ht]; exact hP, hD⟩, hS.F ht⟩) hS.2.2 dX12_signAt_15
def fX12_isAhead_3 (N : Nat) (g0_all : Nat → Int32) (p1 : Int32) (p2 : Int32) (p3 : Int32) (p4 : Int32) : Nat → Int32 → Option (Int32)
  | 0, _ => none
  | K + 1, x5 =>
    if (7 : Int32) < x5 then
      some ((0 : Int32))
    else
      Option.bind (fX12_signAt g0_all p1 p2 x5) fun r2 =>
      Option.bind (fX12_signAt g0_all p3 p4 x5) fun r3 =>
      if r2 = r3 then
        (fX12_isAhead_3 N g0_all p1 p2 p3 p4 K) (x5 + (1 : Int32))
      else
        if r3 ≤ r2 then
          some ((0 : Int32))
        else
          some ((1 : Int32))
def fX12_isAhead (N : Nat) (g0_all : Nat → Int32) (p1 : Int32) (p2 : Int32) (p3 : Int32) (p4 : Int32) : Option (Int32) :=
  fX12_isAhead_3 N g0_all p1 p2 p3 p4 N (0 : Int32)
set_option maxHeartbeats 4000000 in
set_option maxRecDepth 100000 in
theorem mX12_isAhead (l : Launch) (D : zG) (a0 : Nat) (a0_all : Nat) (a0_tape : Nat) (a0_isImage : Nat) (a0_turnWord : Nat) (a0_turnFrom : Nat) (a0_pieceSign : Nat) (a0_pieceFrom : Nat) (a0_runFrom : Nat) (a0_runLong : Nat) (a0_runPiece : Nat) (a0_alike : Nat) (a0_stood : Nat) (sz : Nat)  (v0_taped : Int32) (v0_faultKind : Int32) (v0_faultPlace : Int32) (v0_undos : Int32) (v0_turns : Int32) (v0_pieces : Int32) (v0_signs : Int32) (v0_runs : Int32) (g0_all : Nat → Int32) (p1 : Int32) (p2 : Int32) (p3 : Int32) (p4 : Int32) (N : Nat) (res : Int32) (hf : fX12_isAhead N g0_all p1 p2 p3 p4 = some res) : Met l yX12_isAhead wsX12_isAhead ({ frames := 1, cells := 0, slots := 0, locals := 24 } : Room) (va_Pc [.ref a0, .int p1, .int p2, .int p3, .int p4] (zW D sz [(a0, .inr (9, [.ref a0_all, .ref a0_tape, .ref a0_isImage, .int v0_taped, .int v0_faultKind, .int v0_faultPlace, .int v0_undos, .ref a0_turnWord, .ref a0_turnFrom, .int v0_turns, .ref a0_pieceSign, .ref a0_pieceFrom, .int v0_pieces, .int v0_signs, .ref a0_runFrom, .ref a0_runLong, .ref a0_runPiece, .int v0_runs, .ref a0_alike, .ref a0_stood])), (a0_all, .inl (D.2 1, 5228, .inl g0_all))])) (va_Qi (fun r (_ : Unit) => r = res ∧ (r = 0 ∨ r = 1)) (fun _ => zB D (va_A [(a0, .inr (9, [.ref a0_all, .ref a0_tape, .ref a0_isImage, .int v0_taped, .int v0_faultKind, .int v0_faultPlace, .int v0_undos, .ref a0_turnWord, .ref a0_turnFrom, .int v0_turns, .ref a0_pieceSign, .ref a0_pieceFrom, .int v0_pieces, .int v0_signs, .ref a0_runFrom, .ref a0_runLong, .ref a0_runPiece, .int v0_runs, .ref a0_alike, .ref a0_stood])), (a0_all, .inl (D.2 1, 5228, .inl g0_all))] sz) [(a0, .inr (9, [.ref a0_all, .ref a0_tape, .ref a0_isImage, .int v0_taped, .int v0_faultKind, .int v0_faultPlace, .int v0_undos, .ref a0_turnWord, .ref a0_turnFrom, .int v0_turns, .ref a0_pieceSign, .ref a0_pieceFrom, .int v0_pieces, .int v0_signs, .ref a0_runFrom, .ref a0_runLong, .ref a0_runPiece, .int v0_runs, .ref a0_alike, .ref a0_stood])), (a0_all, .inl (D.2 1, 5228, .inl g0_all))]) (va_A [(a0, .inr (9, [.ref a0_all, .ref a0_tape, .ref a0_isImage, .int v0_taped, .int v0_faultKind, .int v0_faultPlace, .int v0_undos, .ref a0_turnWord, .ref a0_turnFrom, .int v0_turns, .ref a0_pieceSign, .ref a0_pieceFrom, .int v0_pieces, .int v0_signs, .ref a0_runFrom, .ref a0_runLong, .ref a0_runPiece, .int v0_runs, .ref a0_alike, .ref a0_stood])), (a0_all, .inl (D.2 1, 5228, .inl g0_all))] sz)) 0 0 (va_A [(a0, .inr (9, [.ref a0_all, .ref a0_tape, .ref a0_isImage, .int v0_taped, .int v0_faultKind, .int v0_faultPlace, .int v0_undos, .ref a0_turnWord, .ref a0_turnFrom, .int v0_turns, .ref a0_pieceSign, .ref a0_pieceFrom, .int v0_pieces, .int v0_signs, .ref a0_runFrom, .ref a0_runLong, .ref a0_runPiece, .int v0_runs, .ref a0_alike, .ref a0_stood])), (a0_all, .inl (D.2 1, 5228, .inl g0_all))] sz) := by
  refine Met.ofW (cc := cX12_isAhead) (maxL := 8) (ret := (some .boolean)) (by decide) rfl ?_
  intro p e s m args below meth c s₁ B hml hv
  obtain ⟨rfl, hsz, hP, hK, hD0⟩ := hv
  have hx := B.exec
  have hb := B.bytes
  have hr := B.returns
  have hts := atoms_spec (ws := wsX12_isAhead) B.pre
  have hown : s.vm.findClass RX12 = some m.cls := findClass_of_methodNamed B.named
  have hlocks := B.notSynchronized
  subst hsz
  have hD := hD0.self (sz := s.heap.size)
  generalize hAe : va_A [(a0, .inr (9, [.ref a0_all, .ref a0_tape, .ref a0_isImage, .int v0_taped, .int v0_faultKind, .int v0_faultPlace, .int v0_undos, .ref a0_turnWord, .ref a0_turnFrom, .int v0_turns, .ref a0_pieceSign, .ref a0_pieceFrom, .int v0_pieces, .int v0_signs, .ref a0_runFrom, .ref a0_runLong, .ref a0_runPiece, .int v0_runs, .ref a0_alike, .ref a0_stood])), (a0_all, .inl (D.2 1, 5228, .inl g0_all))] s.heap.size = A at hD ⊢
  have hA : ∀ q : Nat, s.heap.size ≤ q → A q := fun q h => by rw [← hAe]; exact Or.inr h
  have hl := lv_entry ([.ref a0, .int p1, .int p2, .int p3, .int p4]) (n := 8) (Nat.le_of_ble_eq_true rfl)
  rw [lg_entry_eq]
  generalize (lg_sl ([.ref a0, .int p1, .int p2, .int p3, .int p4]) ++ List.replicate (8 - (lg_sl ([.ref a0, .int p1, .int p2, .int p3, .int p4])).length) Slot.unset).toArray = ls at hl ⊢
  have hl : lv_has ls 8 [(0, .ref a0), (1, .int p1), (2, .int p2), (3, .int p3), (4, .int p4)] := hl
  refine zStart (A := A) hP (fun Q0 H locs hQ hP hS => ?_)
  have k3 : ∀ K : Nat, ∀ (x5 : Int32) (H : Heap) (locs : List Loc) (ls : Array Slot), fX12_isAhead_3 N g0_all p1 p2 p3 p4 K x5 = some res → va_P D.1 vwCl [(a0, .inr (9, [.ref a0_all, .ref a0_tape, .ref a0_isImage, .int v0_taped, .int v0_faultKind, .int v0_faultPlace, .int v0_undos, .ref a0_turnWord, .ref a0_turnFrom, .int v0_turns, .ref a0_pieceSign, .ref a0_pieceFrom, .int v0_pieces, .int v0_signs, .ref a0_runFrom, .ref a0_runLong, .ref a0_runPiece, .int v0_runs, .ref a0_alike, .ref a0_stood])), (a0_all, .inl (D.2 1, 5228, .inl g0_all))] H → va_D A [(a0, .inr (9, [.ref a0_all, .ref a0_tape, .ref a0_isImage, .int v0_taped, .int v0_faultKind, .int v0_faultPlace, .int v0_undos, .ref a0_turnWord, .ref a0_turnFrom, .int v0_turns, .ref a0_pieceSign, .ref a0_pieceFrom, .int v0_pieces, .int v0_signs, .ref a0_runFrom, .ref a0_runLong, .ref a0_runPiece, .int v0_runs, .ref a0_alike, .ref a0_stood])), (a0_all, .inl (D.2 1, 5228, .inl g0_all))] → va_S A s.heap H locs → lv_has ls 8 [(0, .ref a0), (1, .int p1), (2, .int p2), (3, .int p3), (4, .int p4), (5, .int x5)] → W p l e (headSpec wsX12_isAhead ({ frames := 1, cells := 0, slots := 0, locals := 24 } : Room)).room s m ([.ref a0, .int p1, .int p2, .int p3, .int p4] : List Value).toArray below meth c H locs 0 0 Q0 (F0 m 3 ls []) := by
    intro K
    induction K with
    | zero =>
      intro x5 H locs ls hf
      rw [fX12_isAhead_3] at hf
      cases hf
    | succ K ih =>
      intro x5 H locs ls hf hP hD hS hl
      rw [fX12_isAhead_3] at hf
      refine lv_iload hx hb dX12_isAhead_3 (lv_at hl 5 rfl) ?_
      refine lv_bipush (v := 7) hx hb dX12_isAhead_5 (by decide) ?_
      refine lv_icmp_gt (tgt := 57) hx hb dX12_isAhead_7 (by decide) (fun c_1 => ?_) (fun c_1 => ?_)
      · replace hf := ip c_1 hf
        refine lv_iconst (v := 0) hx hb dX12_isAhead_57 (by decide) ?_
        have he := Option.some.inj hf
        rw [hQ]
        exact W.zret (v := (0 : Int32)) hx hb hr (znb (Or.inl rfl)) (fun t ht hW => by rw [← he]; exact ⟨⟨(0 : Int32), (), rfl, ⟨rfl, Or.inl rfl⟩, by rw [ht]; exact hP, hD⟩, hS.F ht⟩) hS.2.2 dX12_isAhead_58
      · replace hf := im c_1 hf
        refine lv_aload_n hx hb dX12_isAhead_10 rfl (lv_at hl 0 rfl) ?_
        refine lv_iload_n hx hb dX12_isAhead_11 rfl (lv_at hl 1 rfl) ?_
        refine lv_iload_n hx hb dX12_isAhead_12 rfl (lv_at hl 2 rfl) ?_
        refine lv_iload hx hb dX12_isAhead_13 (lv_at hl 5 rfl) ?_
        obtain ⟨r2, hr2, hf⟩ := bd hf
        refine zVi (As := [.int p1, .int p2, .int x5]) (rest := []) (ci := 9) (q0 := 0) (wn := [(a0, .inr (9, [.ref a0_all, .ref a0_tape, .ref a0_isImage, .int v0_taped, .int v0_faultKind, .int v0_faultPlace, .int v0_undos, .ref a0_turnWord, .ref a0_turnFrom, .int v0_turns, .ref a0_pieceSign, .ref a0_pieceFrom, .int v0_pieces, .int v0_signs, .ref a0_runFrom, .ref a0_runLong, .ref a0_runPiece, .int v0_runs, .ref a0_alike, .ref a0_stood])), (a0_all, .inl (D.2 1, 5228, .inl g0_all))]) ⟨hx, hb, hml, hown, hts⟩ (mX12_signAt l D a0 a0_all a0_tape a0_isImage a0_turnWord a0_turnFrom a0_pieceSign a0_pieceFrom a0_runFrom a0_runLong a0_runPiece a0_alike a0_stood H.size v0_taped v0_faultKind v0_faultPlace v0_undos v0_turns v0_pieces v0_signs v0_runs g0_all p1 p2 x5 r2 hr2) (cwV 3 hts gX12_isAhead_X12_signAt rfl rfl rfl (by decide +kernel) ⟨Nat.le_of_ble_eq_true rfl, Nat.le_of_ble_eq_true rfl⟩) hK hP hD hS hA [0, 1] [] [0, 1] rfl (by decide) rfl (by decide) (by decide) rfl (by decide) rfl rfl rfl hl.1 rfl (Nat.le_of_ble_eq_true rfl) dX12_isAhead_15 ⟨Nat.zero_le _, Nat.zero_le _⟩ (fun H locs hP hD hS => ?_)
        refine lv_istore (lv' := [(6, .int r2), (0, .ref a0), (1, .int p1), (2, .int p2), (3, .int p3), (4, .int p4), (5, .int x5)]) hx hb dX12_isAhead_18 hl (by decide) rfl (fun ls hl => ?_)
        refine lv_aload_n hx hb dX12_isAhead_20 rfl (lv_at hl 1 rfl) ?_
        refine lv_iload_n hx hb dX12_isAhead_21 rfl (lv_at hl 4 rfl) ?_
        refine lv_iload hx hb dX12_isAhead_22 (lv_at hl 5 rfl) ?_
        refine lv_iload hx hb dX12_isAhead_24 (lv_at hl 6 rfl) ?_
        obtain ⟨r3, hr3, hf⟩ := bd hf
        refine zVi (As := [.int p3, .int p4, .int x5]) (rest := []) (ci := 9) (q0 := 0) (wn := [(a0, .inr (9, [.ref a0_all, .ref a0_tape, .ref a0_isImage, .int v0_taped, .int v0_faultKind, .int v0_faultPlace, .int v0_undos, .ref a0_turnWord, .ref a0_turnFrom, .int v0_turns, .ref a0_pieceSign, .ref a0_pieceFrom, .int v0_pieces, .int v0_signs, .ref a0_runFrom, .ref a0_runLong, .ref a0_runPiece, .int v0_runs, .ref a0_alike, .ref a0_stood])), (a0_all, .inl (D.2 1, 5228, .inl g0_all))]) ⟨hx, hb, hml, hown, hts⟩ (mX12_signAt l D a0 a0_all a0_tape a0_isImage a0_turnWord a0_turnFrom a0_pieceSign a0_pieceFrom a0_runFrom a0_runLong a0_runPiece a0_alike a0_stood H.size v0_taped v0_faultKind v0_faultPlace v0_undos v0_turns v0_pieces v0_signs v0_runs g0_all p3 p4 x5 r3 hr3) (cwV 3 hts gX12_isAhead_X12_signAt rfl rfl rfl (by decide +kernel) ⟨Nat.le_of_ble_eq_true rfl, Nat.le_of_ble_eq_true rfl⟩) hK hP hD hS hA [0, 1] [] [0, 1] rfl (by decide) rfl (by decide) (by decide) rfl (by decide) rfl rfl rfl hl.1 rfl (Nat.le_of_ble_eq_true rfl) dX12_isAhead_26 ⟨Nat.zero_le _, Nat.zero_le _⟩ (fun H locs hP hD hS => ?_)
        refine lv_istore (lv' := [(7, .int r3), (6, .int r2), (0, .ref a0), (1, .int p1), (2, .int p2), (3, .int p3), (4, .int p4), (5, .int x5)]) hx hb dX12_isAhead_29 hl (by decide) rfl (fun ls hl => ?_)
        refine lv_iload hx hb dX12_isAhead_31 (lv_at hl 1 rfl) ?_
        refine lv_iload hx hb dX12_isAhead_33 (lv_at hl 0 rfl) ?_
        refine lv_icmp_eq (tgt := 51) hx hb dX12_isAhead_35 (by decide) (fun c_4 => ?_) (fun c_4 => ?_)
        · replace hf := ip c_4 hf
          refine lv_iinc (v := (x5 + (1 : Int32))) (lv' := [(5, .int (x5 + (1 : Int32))), (7, .int r3), (6, .int r2), (0, .ref a0), (1, .int p1), (2, .int p2), (3, .int p3), (4, .int p4)]) hx hb dX12_isAhead_51 hl (k := 7) rfl rfl (by decide) rfl (fun ls hl => ?_)
          refine lv_goto (tgt := 3) hx hb dX12_isAhead_54 (by decide) ?_
          exact ih (x5 + (1 : Int32)) H locs ls hf hP hD hS (lv_sub hl [3, 4, 5, 6, 7, 0] rfl)
        · replace hf := im c_4 hf
          refine lv_iload hx hb dX12_isAhead_38 (lv_at hl 1 rfl) ?_
          refine lv_iload hx hb dX12_isAhead_40 (lv_at hl 0 rfl) ?_
          refine lv_icmp_ge (tgt := 49) hx hb dX12_isAhead_42 (by decide) (fun c_5 => ?_) (fun c_5 => ?_)
          · replace hf := ip c_5 hf
            refine lv_iconst (v := 0) hx hb dX12_isAhead_49 (by decide) ?_
            have he := Option.some.inj hf
            rw [hQ]
            exact W.zret (v := (0 : Int32)) hx hb hr (znb (Or.inl rfl)) (fun t ht hW => by rw [← he]; exact ⟨⟨(0 : Int32), (), rfl, ⟨rfl, Or.inl rfl⟩, by rw [ht]; exact hP, hD⟩, hS.F ht⟩) hS.2.2 dX12_isAhead_50
          · replace hf := im c_5 hf
            refine lv_iconst (v := 1) hx hb dX12_isAhead_45 (by decide) ?_
            refine lv_goto (tgt := 50) hx hb dX12_isAhead_46 (by decide) ?_
            have he := Option.some.inj hf
            rw [hQ]
            exact W.zret (v := (1 : Int32)) hx hb hr (znb (Or.inr rfl)) (fun t ht hW => by rw [← he]; exact ⟨⟨(1 : Int32), (), rfl, ⟨rfl, Or.inr rfl⟩, by rw [ht]; exact hP, hD⟩, hS.F ht⟩) hS.2.2 dX12_isAhead_50
  unfold fX12_isAhead at hf
  refine lv_iconst (v := 0) hx hb dX12_isAhead_0 (by decide) ?_
  refine lv_istore (lv' := [(5, .int (0 : Int32)), (0, .ref a0), (1, .int p1), (2, .int p2), (3, .int p3), (4, .int p4)]) hx hb dX12_isAhead_1 hl (by decide) rfl (fun ls hl => ?_)
  exact k3 N (0 : Int32) H locs ls hf hP hD hS (lv_sub hl [1, 2, 3, 4, 5, 0] rfl)
def fX12_enters_84 (N : Nat) (g0_all : Nat → Int32) (p1 : Int32) (p2 : Int32) (p3 : Int32) (x4 : Int32) (v0_turns : Int32) (g0_turnWord : Nat → Int32) (g0_turnFrom : Nat → Int32) : Option (Int32 × (Nat → Int32) × (Nat → Int32)) :=
  if x4 < 0 ∨ 320 ≤ (x4).toNatClampNeg then none else
  if x4 < 0 ∨ 320 ≤ (x4).toNatClampNeg then none else
  some ((v0_turns + (1 : Int32)), (upd g0_turnWord (x4).toNatClampNeg p2), (upd g0_turnFrom (x4).toNatClampNeg p3))
def fX12_enters_6 (N : Nat) (g0_all : Nat → Int32) (p1 : Int32) (p2 : Int32) (p3 : Int32) : Nat → Int32 → Int32 → (Nat → Int32) → (Nat → Int32) → Option (Int32 × (Nat → Int32) × (Nat → Int32))
  | 0, _, _, _, _ => none
  | K + 1, x4, v0_turns, g0_turnWord, g0_turnFrom =>
    if x4 ≤ (0 : Int32) then
      fX12_enters_84 N g0_all p1 p2 p3 x4 v0_turns g0_turnWord g0_turnFrom
    else
      Option.bind (fX12_wordAt p1 p2) fun r2 =>
      if (x4 - (1 : Int32)) < 0 ∨ 320 ≤ ((x4 - (1 : Int32))).toNatClampNeg then none else
      Option.bind (fX12_wordAt p1 (g0_turnWord ((x4 - (1 : Int32))).toNatClampNeg)) fun r4 =>
      if (x4 - (1 : Int32)) < 0 ∨ 320 ≤ ((x4 - (1 : Int32))).toNatClampNeg then none else
      Option.bind (fX12_isAhead N g0_all r2 p3 r4 (g0_turnFrom ((x4 - (1 : Int32))).toNatClampNeg)) fun r6 =>
      if r6 = (0 : Int32) then
        fX12_enters_84 N g0_all p1 p2 p3 x4 v0_turns g0_turnWord g0_turnFrom
      else
        if (x4 - (1 : Int32)) < 0 ∨ 320 ≤ ((x4 - (1 : Int32))).toNatClampNeg then none else
        if x4 < 0 ∨ 320 ≤ (x4).toNatClampNeg then none else
        if (x4 - (1 : Int32)) < 0 ∨ 320 ≤ ((x4 - (1 : Int32))).toNatClampNeg then none else
        if x4 < 0 ∨ 320 ≤ (x4).toNatClampNeg then none else
        (fX12_enters_6 N g0_all p1 p2 p3 K) (x4 + (-1 : Int32)) v0_turns (upd g0_turnWord (x4).toNatClampNeg (g0_turnWord ((x4 - (1 : Int32))).toNatClampNeg)) (upd g0_turnFrom (x4).toNatClampNeg (g0_turnFrom ((x4 - (1 : Int32))).toNatClampNeg))
def fX12_enters (N : Nat) (v0_turns : Int32) (g0_all : Nat → Int32) (g0_turnWord : Nat → Int32) (g0_turnFrom : Nat → Int32) (p1 : Int32) (p2 : Int32) (p3 : Int32) : Option (Int32 × (Nat → Int32) × (Nat → Int32)) :=
  fX12_enters_6 N g0_all p1 p2 p3 N v0_turns v0_turns g0_turnWord g0_turnFrom
set_option maxHeartbeats 4000000 in
set_option maxRecDepth 100000 in
theorem mX12_enters (l : Launch) (D : zG) (a0 : Nat) (a0_all : Nat) (a0_tape : Nat) (a0_isImage : Nat) (a0_turnWord : Nat) (a0_turnFrom : Nat) (a0_pieceSign : Nat) (a0_pieceFrom : Nat) (a0_runFrom : Nat) (a0_runLong : Nat) (a0_runPiece : Nat) (a0_alike : Nat) (a0_stood : Nat) (sz : Nat)  (v0_taped : Int32) (v0_faultKind : Int32) (v0_faultPlace : Int32) (v0_undos : Int32) (v0_turns : Int32) (v0_pieces : Int32) (v0_signs : Int32) (v0_runs : Int32) (g0_all : Nat → Int32) (g0_turnWord : Nat → Int32) (g0_turnFrom : Nat → Int32) (p1 : Int32) (p2 : Int32) (p3 : Int32) (N : Nat) (res : Int32 × (Nat → Int32) × (Nat → Int32)) (hf : fX12_enters N v0_turns g0_all g0_turnWord g0_turnFrom p1 p2 p3 = some res) : Met l yX12_enters wsX12_enters ({ frames := 2, cells := 0, slots := 0, locals := 51 } : Room) (va_Pc [.ref a0, .int p1, .int p2, .int p3] (zW D sz [(a0, .inr (9, [.ref a0_all, .ref a0_tape, .ref a0_isImage, .int v0_taped, .int v0_faultKind, .int v0_faultPlace, .int v0_undos, .ref a0_turnWord, .ref a0_turnFrom, .int v0_turns, .ref a0_pieceSign, .ref a0_pieceFrom, .int v0_pieces, .int v0_signs, .ref a0_runFrom, .ref a0_runLong, .ref a0_runPiece, .int v0_runs, .ref a0_alike, .ref a0_stood])), (a0_all, .inl (D.2 1, 5228, .inl g0_all)), (a0_turnWord, .inl (D.2 1, 320, .inl g0_turnWord)), (a0_turnFrom, .inl (D.2 1, 320, .inl g0_turnFrom))])) (va_Qv (fun (_ : Unit) => True) (fun _ => zB D (va_A [(a0, .inr (9, [.ref a0_all, .ref a0_tape, .ref a0_isImage, .int v0_taped, .int v0_faultKind, .int v0_faultPlace, .int v0_undos, .ref a0_turnWord, .ref a0_turnFrom, .int v0_turns, .ref a0_pieceSign, .ref a0_pieceFrom, .int v0_pieces, .int v0_signs, .ref a0_runFrom, .ref a0_runLong, .ref a0_runPiece, .int v0_runs, .ref a0_alike, .ref a0_stood])), (a0_all, .inl (D.2 1, 5228, .inl g0_all)), (a0_turnWord, .inl (D.2 1, 320, .inl g0_turnWord)), (a0_turnFrom, .inl (D.2 1, 320, .inl g0_turnFrom))] sz) [(a0, .inr (9, [.ref a0_all, .ref a0_tape, .ref a0_isImage, .int v0_taped, .int v0_faultKind, .int v0_faultPlace, .int v0_undos, .ref a0_turnWord, .ref a0_turnFrom, .int res.1, .ref a0_pieceSign, .ref a0_pieceFrom, .int v0_pieces, .int v0_signs, .ref a0_runFrom, .ref a0_runLong, .ref a0_runPiece, .int v0_runs, .ref a0_alike, .ref a0_stood])), (a0_all, .inl (D.2 1, 5228, .inl g0_all)), (a0_turnWord, .inl (D.2 1, 320, .inl res.2.1)), (a0_turnFrom, .inl (D.2 1, 320, .inl res.2.2))]) (va_A [(a0, .inr (9, [.ref a0_all, .ref a0_tape, .ref a0_isImage, .int v0_taped, .int v0_faultKind, .int v0_faultPlace, .int v0_undos, .ref a0_turnWord, .ref a0_turnFrom, .int v0_turns, .ref a0_pieceSign, .ref a0_pieceFrom, .int v0_pieces, .int v0_signs, .ref a0_runFrom, .ref a0_runLong, .ref a0_runPiece, .int v0_runs, .ref a0_alike, .ref a0_stood])), (a0_all, .inl (D.2 1, 5228, .inl g0_all)), (a0_turnWord, .inl (D.2 1, 320, .inl g0_turnWord)), (a0_turnFrom, .inl (D.2 1, 320, .inl g0_turnFrom))] sz)) 0 0 (va_A [(a0, .inr (9, [.ref a0_all, .ref a0_tape, .ref a0_isImage, .int v0_taped, .int v0_faultKind, .int v0_faultPlace, .int v0_undos, .ref a0_turnWord, .ref a0_turnFrom, .int v0_turns, .ref a0_pieceSign, .ref a0_pieceFrom, .int v0_pieces, .int v0_signs, .ref a0_runFrom, .ref a0_runLong, .ref a0_runPiece, .int v0_runs, .ref a0_alike, .ref a0_stood])), (a0_all, .inl (D.2 1, 5228, .inl g0_all)), (a0_turnWord, .inl (D.2 1, 320, .inl g0_turnWord)), (a0_turnFrom, .inl (D.2 1, 320, .inl g0_turnFrom))] sz) := by
  refine Met.ofW (cc := cX12_enters) (maxL := 5) (ret := none) (by decide) rfl ?_
  intro p e s m args below meth c s₁ B hml hv
  obtain ⟨rfl, hsz, hP, hK, hD0⟩ := hv
  have hx := B.exec
  have hb := B.bytes
  have hr := B.returns
  have hts := atoms_spec (ws := wsX12_enters) B.pre
  have hown : s.vm.findClass RX12 = some m.cls := findClass_of_methodNamed B.named
  have hlocks := B.notSynchronized
  subst hsz
  have hD := hD0.self (sz := s.heap.size)
  generalize hAe : va_A [(a0, .inr (9, [.ref a0_all, .ref a0_tape, .ref a0_isImage, .int v0_taped, .int v0_faultKind, .int v0_faultPlace, .int v0_undos, .ref a0_turnWord, .ref a0_turnFrom, .int v0_turns, .ref a0_pieceSign, .ref a0_pieceFrom, .int v0_pieces, .int v0_signs, .ref a0_runFrom, .ref a0_runLong, .ref a0_runPiece, .int v0_runs, .ref a0_alike, .ref a0_stood])), (a0_all, .inl (D.2 1, 5228, .inl g0_all)), (a0_turnWord, .inl (D.2 1, 320, .inl g0_turnWord)), (a0_turnFrom, .inl (D.2 1, 320, .inl g0_turnFrom))] s.heap.size = A at hD ⊢
  have hA : ∀ q : Nat, s.heap.size ≤ q → A q := fun q h => by rw [← hAe]; exact Or.inr h
  have l87 := zat hts 1 (w := .fieldLink RX12 87 "TurnedWordsModel" "turns" "I") rfl
  have l24 := zat hts 2 (w := .fieldLink RX12 24 "TurnedWordsModel" "turnWord" "[I") rfl
  have l27 := zat hts 3 (w := .fieldLink RX12 27 "TurnedWordsModel" "turnFrom" "[I") rfl
  have hwX12 : ∀ w ∈ u_ws RX12 TX12 20, w ∈ wsX12_enters := fun w h => List.mem_cons_of_mem _ (List.mem_append_right _ h)
  have hl := lv_entry ([.ref a0, .int p1, .int p2, .int p3]) (n := 5) (Nat.le_of_ble_eq_true rfl)
  rw [lg_entry_eq]
  generalize (lg_sl ([.ref a0, .int p1, .int p2, .int p3]) ++ List.replicate (5 - (lg_sl ([.ref a0, .int p1, .int p2, .int p3])).length) Slot.unset).toArray = ls at hl ⊢
  have hl : lv_has ls 5 [(0, .ref a0), (1, .int p1), (2, .int p2), (3, .int p3)] := hl
  refine zStart (A := A) hP (fun Q0 H locs hQ hP hS => ?_)
  have k84 : ∀ (x4 : Int32) (v0_turns : Int32) (g0_turnWord : Nat → Int32) (g0_turnFrom : Nat → Int32) (H : Heap) (locs : List Loc) (ls : Array Slot), fX12_enters_84 N g0_all p1 p2 p3 x4 v0_turns g0_turnWord g0_turnFrom = some res → va_P D.1 vwCl [(a0, .inr (9, [.ref a0_all, .ref a0_tape, .ref a0_isImage, .int v0_taped, .int v0_faultKind, .int v0_faultPlace, .int v0_undos, .ref a0_turnWord, .ref a0_turnFrom, .int v0_turns, .ref a0_pieceSign, .ref a0_pieceFrom, .int v0_pieces, .int v0_signs, .ref a0_runFrom, .ref a0_runLong, .ref a0_runPiece, .int v0_runs, .ref a0_alike, .ref a0_stood])), (a0_all, .inl (D.2 1, 5228, .inl g0_all)), (a0_turnWord, .inl (D.2 1, 320, .inl g0_turnWord)), (a0_turnFrom, .inl (D.2 1, 320, .inl g0_turnFrom))] H → va_D A [(a0, .inr (9, [.ref a0_all, .ref a0_tape, .ref a0_isImage, .int v0_taped, .int v0_faultKind, .int v0_faultPlace, .int v0_undos, .ref a0_turnWord, .ref a0_turnFrom, .int v0_turns, .ref a0_pieceSign, .ref a0_pieceFrom, .int v0_pieces, .int v0_signs, .ref a0_runFrom, .ref a0_runLong, .ref a0_runPiece, .int v0_runs, .ref a0_alike, .ref a0_stood])), (a0_all, .inl (D.2 1, 5228, .inl g0_all)), (a0_turnWord, .inl (D.2 1, 320, .inl g0_turnWord)), (a0_turnFrom, .inl (D.2 1, 320, .inl g0_turnFrom))] → va_S A s.heap H locs → lv_has ls 5 [(0, .ref a0), (2, .int p2), (3, .int p3), (4, .int x4)] → W p l e (headSpec wsX12_enters ({ frames := 2, cells := 0, slots := 0, locals := 51 } : Room)).room s m ([.ref a0, .int p1, .int p2, .int p3] : List Value).toArray below meth c H locs 0 0 Q0 (F0 m 84 ls []) := by
    intro x4 v0_turns g0_turnWord g0_turnFrom H locs ls hf hP hD hS hl
    unfold fX12_enters_84 at hf
    refine lv_aload_n hx hb dX12_enters_84 rfl (lv_at hl 0 rfl) ?_
    refine va_get (D := D.1) (ci := 9) (v := .ref a0_turnWord) (C := RX12) (T := TX12) (N := 20) hx hb hts hwX12 hown hK.1 hP 0 rfl rfl 7 (by decide) l24 (fun _ h9 => h9) rfl dX12_enters_85 ?_
    refine lv_iload hx hb dX12_enters_88 (lv_at hl 3 rfl) ?_
    refine lv_iload_n hx hb dX12_enters_90 rfl (lv_at hl 1 rfl) ?_
    obtain ⟨h_13, hf⟩ := gd hf
    refine va_iast hx hb hK.1 hP hD hS 2 1 rfl rfl h_13 dX12_enters_91 (fun H locs hP hD hS => ?_)
    have hP : va_P D.1 vwCl [(a0, .inr (9, [.ref a0_all, .ref a0_tape, .ref a0_isImage, .int v0_taped, .int v0_faultKind, .int v0_faultPlace, .int v0_undos, .ref a0_turnWord, .ref a0_turnFrom, .int v0_turns, .ref a0_pieceSign, .ref a0_pieceFrom, .int v0_pieces, .int v0_signs, .ref a0_runFrom, .ref a0_runLong, .ref a0_runPiece, .int v0_runs, .ref a0_alike, .ref a0_stood])), (a0_all, .inl (D.2 1, 5228, .inl g0_all)), (a0_turnWord, .inl (D.2 1, 320, .inl (upd g0_turnWord (x4).toNatClampNeg p2))), (a0_turnFrom, .inl (D.2 1, 320, .inl g0_turnFrom))] H := hP
    have hD : va_D A [(a0, .inr (9, [.ref a0_all, .ref a0_tape, .ref a0_isImage, .int v0_taped, .int v0_faultKind, .int v0_faultPlace, .int v0_undos, .ref a0_turnWord, .ref a0_turnFrom, .int v0_turns, .ref a0_pieceSign, .ref a0_pieceFrom, .int v0_pieces, .int v0_signs, .ref a0_runFrom, .ref a0_runLong, .ref a0_runPiece, .int v0_runs, .ref a0_alike, .ref a0_stood])), (a0_all, .inl (D.2 1, 5228, .inl g0_all)), (a0_turnWord, .inl (D.2 1, 320, .inl (upd g0_turnWord (x4).toNatClampNeg p2))), (a0_turnFrom, .inl (D.2 1, 320, .inl g0_turnFrom))] := hD
    refine lv_aload_n hx hb dX12_enters_92 rfl (lv_at hl 0 rfl) ?_
    refine va_get (D := D.1) (ci := 9) (v := .ref a0_turnFrom) (C := RX12) (T := TX12) (N := 20) hx hb hts hwX12 hown hK.1 hP 0 rfl rfl 8 (by decide) l27 (fun _ h9 => h9) rfl dX12_enters_93 ?_
    refine lv_iload hx hb dX12_enters_96 (lv_at hl 3 rfl) ?_
    refine lv_iload_n hx hb dX12_enters_98 rfl (lv_at hl 2 rfl) ?_
    obtain ⟨h_14, hf⟩ := gd hf
    refine va_iast hx hb hK.1 hP hD hS 3 1 rfl rfl h_14 dX12_enters_99 (fun H locs hP hD hS => ?_)
    have hP : va_P D.1 vwCl [(a0, .inr (9, [.ref a0_all, .ref a0_tape, .ref a0_isImage, .int v0_taped, .int v0_faultKind, .int v0_faultPlace, .int v0_undos, .ref a0_turnWord, .ref a0_turnFrom, .int v0_turns, .ref a0_pieceSign, .ref a0_pieceFrom, .int v0_pieces, .int v0_signs, .ref a0_runFrom, .ref a0_runLong, .ref a0_runPiece, .int v0_runs, .ref a0_alike, .ref a0_stood])), (a0_all, .inl (D.2 1, 5228, .inl g0_all)), (a0_turnWord, .inl (D.2 1, 320, .inl (upd g0_turnWord (x4).toNatClampNeg p2))), (a0_turnFrom, .inl (D.2 1, 320, .inl (upd g0_turnFrom (x4).toNatClampNeg p3)))] H := hP
    have hD : va_D A [(a0, .inr (9, [.ref a0_all, .ref a0_tape, .ref a0_isImage, .int v0_taped, .int v0_faultKind, .int v0_faultPlace, .int v0_undos, .ref a0_turnWord, .ref a0_turnFrom, .int v0_turns, .ref a0_pieceSign, .ref a0_pieceFrom, .int v0_pieces, .int v0_signs, .ref a0_runFrom, .ref a0_runLong, .ref a0_runPiece, .int v0_runs, .ref a0_alike, .ref a0_stood])), (a0_all, .inl (D.2 1, 5228, .inl g0_all)), (a0_turnWord, .inl (D.2 1, 320, .inl (upd g0_turnWord (x4).toNatClampNeg p2))), (a0_turnFrom, .inl (D.2 1, 320, .inl (upd g0_turnFrom (x4).toNatClampNeg p3)))] := hD
    refine lv_aload_n hx hb dX12_enters_100 rfl (lv_at hl 0 rfl) ?_
    refine lv_dup hx hb dX12_enters_101 rfl ?_
    refine va_get (D := D.1) (ci := 9) (v := .int v0_turns) (C := RX12) (T := TX12) (N := 20) hx hb hts hwX12 hown hK.1 hP 0 rfl rfl 9 (by decide) l87 (fun _ h9 => h9) rfl dX12_enters_102 ?_
    refine lv_iconst (v := 1) hx hb dX12_enters_105 (by decide) ?_
    refine lv_iadd hx hb dX12_enters_106 ?_
    refine va_put (D := D.1) (ci := 9) (v := .int (v0_turns + (1 : Int32))) (ty := .int) (C := RX12) (T := TX12) (N := 20) hx hb hts hwX12 tyX12 tyX12_ok nmX12 hown hK.1 hP hD hS 0 rfl rfl 9 (by decide) l87 (fun _ h9 => h9) rfl (by decide +kernel) rfl rfl (Nat.le_of_ble_eq_true rfl) dX12_enters_107 (fun H locs hP hD hS => ?_)
    have hP : va_P D.1 vwCl [(a0, .inr (9, [.ref a0_all, .ref a0_tape, .ref a0_isImage, .int v0_taped, .int v0_faultKind, .int v0_faultPlace, .int v0_undos, .ref a0_turnWord, .ref a0_turnFrom, .int (v0_turns + (1 : Int32)), .ref a0_pieceSign, .ref a0_pieceFrom, .int v0_pieces, .int v0_signs, .ref a0_runFrom, .ref a0_runLong, .ref a0_runPiece, .int v0_runs, .ref a0_alike, .ref a0_stood])), (a0_all, .inl (D.2 1, 5228, .inl g0_all)), (a0_turnWord, .inl (D.2 1, 320, .inl (upd g0_turnWord (x4).toNatClampNeg p2))), (a0_turnFrom, .inl (D.2 1, 320, .inl (upd g0_turnFrom (x4).toNatClampNeg p3)))] H := hP
    have hD : va_D A [(a0, .inr (9, [.ref a0_all, .ref a0_tape, .ref a0_isImage, .int v0_taped, .int v0_faultKind, .int v0_faultPlace, .int v0_undos, .ref a0_turnWord, .ref a0_turnFrom, .int (v0_turns + (1 : Int32)), .ref a0_pieceSign, .ref a0_pieceFrom, .int v0_pieces, .int v0_signs, .ref a0_runFrom, .ref a0_runLong, .ref a0_runPiece, .int v0_runs, .ref a0_alike, .ref a0_stood])), (a0_all, .inl (D.2 1, 5228, .inl g0_all)), (a0_turnWord, .inl (D.2 1, 320, .inl (upd g0_turnWord (x4).toNatClampNeg p2))), (a0_turnFrom, .inl (D.2 1, 320, .inl (upd g0_turnFrom (x4).toNatClampNeg p3)))] := hD
    have he := Option.some.inj hf
    rw [hQ]
    exact W.vret hx hb hr (fun t ht hW => by rw [← he]; exact ⟨⟨(), rfl, trivial, by rw [ht]; exact hP, hD⟩, hS.F ht⟩) hS.2.2 dX12_enters_110
  have k6 : ∀ K : Nat, ∀ (x4 : Int32) (v0_turns : Int32) (g0_turnWord : Nat → Int32) (g0_turnFrom : Nat → Int32) (H : Heap) (locs : List Loc) (ls : Array Slot), fX12_enters_6 N g0_all p1 p2 p3 K x4 v0_turns g0_turnWord g0_turnFrom = some res → va_P D.1 vwCl [(a0, .inr (9, [.ref a0_all, .ref a0_tape, .ref a0_isImage, .int v0_taped, .int v0_faultKind, .int v0_faultPlace, .int v0_undos, .ref a0_turnWord, .ref a0_turnFrom, .int v0_turns, .ref a0_pieceSign, .ref a0_pieceFrom, .int v0_pieces, .int v0_signs, .ref a0_runFrom, .ref a0_runLong, .ref a0_runPiece, .int v0_runs, .ref a0_alike, .ref a0_stood])), (a0_all, .inl (D.2 1, 5228, .inl g0_all)), (a0_turnWord, .inl (D.2 1, 320, .inl g0_turnWord)), (a0_turnFrom, .inl (D.2 1, 320, .inl g0_turnFrom))] H → va_D A [(a0, .inr (9, [.ref a0_all, .ref a0_tape, .ref a0_isImage, .int v0_taped, .int v0_faultKind, .int v0_faultPlace, .int v0_undos, .ref a0_turnWord, .ref a0_turnFrom, .int v0_turns, .ref a0_pieceSign, .ref a0_pieceFrom, .int v0_pieces, .int v0_signs, .ref a0_runFrom, .ref a0_runLong, .ref a0_runPiece, .int v0_runs, .ref a0_alike, .ref a0_stood])), (a0_all, .inl (D.2 1, 5228, .inl g0_all)), (a0_turnWord, .inl (D.2 1, 320, .inl g0_turnWord)), (a0_turnFrom, .inl (D.2 1, 320, .inl g0_turnFrom))] → va_S A s.heap H locs → lv_has ls 5 [(0, .ref a0), (1, .int p1), (2, .int p2), (3, .int p3), (4, .int x4)] → W p l e (headSpec wsX12_enters ({ frames := 2, cells := 0, slots := 0, locals := 51 } : Room)).room s m ([.ref a0, .int p1, .int p2, .int p3] : List Value).toArray below meth c H locs 0 0 Q0 (F0 m 6 ls []) := by
    intro K
    induction K with
    | zero =>
      intro x4 v0_turns g0_turnWord g0_turnFrom H locs ls hf
      rw [fX12_enters_6] at hf
      cases hf
    | succ K ih =>
      intro x4 v0_turns g0_turnWord g0_turnFrom H locs ls hf hP hD hS hl
      rw [fX12_enters_6] at hf
      refine lv_iload hx hb dX12_enters_6 (lv_at hl 4 rfl) ?_
      refine lv_if_le (tgt := 84) hx hb dX12_enters_8 (by decide) (fun c_1 => ?_) (fun c_1 => ?_)
      · replace hf := ip c_1 hf
        exact k84 x4 v0_turns g0_turnWord g0_turnFrom H locs ls hf hP hD hS (lv_sub hl [0, 2, 3, 4] rfl)
      · replace hf := im c_1 hf
        refine lv_aload_n hx hb dX12_enters_11 rfl (lv_at hl 0 rfl) ?_
        refine lv_iload_n hx hb dX12_enters_12 rfl (lv_at hl 1 rfl) ?_
        refine lv_iload_n hx hb dX12_enters_13 rfl (lv_at hl 2 rfl) ?_
        obtain ⟨r2, hr2, hf⟩ := bd hf
        refine zSi (As := [.int p1, .int p2]) (rest := [.ref a0]) (wn := [(a0, .inr (9, [.ref a0_all, .ref a0_tape, .ref a0_isImage, .int v0_taped, .int v0_faultKind, .int v0_faultPlace, .int v0_undos, .ref a0_turnWord, .ref a0_turnFrom, .int v0_turns, .ref a0_pieceSign, .ref a0_pieceFrom, .int v0_pieces, .int v0_signs, .ref a0_runFrom, .ref a0_runLong, .ref a0_runPiece, .int v0_runs, .ref a0_alike, .ref a0_stood])), (a0_all, .inl (D.2 1, 5228, .inl g0_all)), (a0_turnWord, .inl (D.2 1, 320, .inl g0_turnWord)), (a0_turnFrom, .inl (D.2 1, 320, .inl g0_turnFrom))]) ⟨hx, hb, hml, hown, hts⟩ (mX12_wordAt l D H.size p1 p2 r2 hr2) (va_cwS 2 hts gX12_enters_X12_wordAt rfl rfl rfl (by decide +kernel) ⟨Nat.le_of_ble_eq_true rfl, Nat.le_of_ble_eq_true rfl⟩) hK hP hD hS hA [] [0, 1, 2, 3] [0, 1, 2, 3] rfl (by decide) rfl (by decide) (by decide) rfl (by decide) rfl hl.1 rfl (Nat.le_of_ble_eq_true rfl) dX12_enters_14 ⟨Nat.zero_le _, Nat.zero_le _⟩ (fun H locs hP hD hS => ?_)
        refine lv_iload_n hx hb dX12_enters_17 rfl (lv_at hl 3 rfl) ?_
        refine lv_iload_n hx hb dX12_enters_18 rfl (lv_at hl 1 rfl) ?_
        refine lv_aload_n hx hb dX12_enters_19 rfl (lv_at hl 0 rfl) ?_
        refine va_get (D := D.1) (ci := 9) (v := .ref a0_turnWord) (C := RX12) (T := TX12) (N := 20) hx hb hts hwX12 hown hK.1 hP 0 rfl rfl 7 (by decide) l24 (fun _ h9 => h9) rfl dX12_enters_20 ?_
        refine lv_iload hx hb dX12_enters_23 (lv_at hl 4 rfl) ?_
        refine lv_iconst (v := 1) hx hb dX12_enters_25 (by decide) ?_
        refine lv_isub hx hb dX12_enters_26 ?_
        obtain ⟨h_3, hf⟩ := gd hf
        refine va_iald hx hb hK.1 hP 2 1 rfl rfl h_3 dX12_enters_27 ?_
        obtain ⟨r4, hr4, hf⟩ := bd hf
        refine zSi (As := [.int p1, .int (g0_turnWord ((x4 - (1 : Int32))).toNatClampNeg)]) (rest := [.int p3, .int r2, .ref a0]) (wn := [(a0, .inr (9, [.ref a0_all, .ref a0_tape, .ref a0_isImage, .int v0_taped, .int v0_faultKind, .int v0_faultPlace, .int v0_undos, .ref a0_turnWord, .ref a0_turnFrom, .int v0_turns, .ref a0_pieceSign, .ref a0_pieceFrom, .int v0_pieces, .int v0_signs, .ref a0_runFrom, .ref a0_runLong, .ref a0_runPiece, .int v0_runs, .ref a0_alike, .ref a0_stood])), (a0_all, .inl (D.2 1, 5228, .inl g0_all)), (a0_turnWord, .inl (D.2 1, 320, .inl g0_turnWord)), (a0_turnFrom, .inl (D.2 1, 320, .inl g0_turnFrom))]) ⟨hx, hb, hml, hown, hts⟩ (mX12_wordAt l D H.size p1 (g0_turnWord ((x4 - (1 : Int32))).toNatClampNeg) r4 hr4) (va_cwS 2 hts gX12_enters_X12_wordAt rfl rfl rfl (by decide +kernel) ⟨Nat.le_of_ble_eq_true rfl, Nat.le_of_ble_eq_true rfl⟩) hK hP hD hS hA [] [0, 1, 2, 3] [0, 1, 2, 3] rfl (by decide) rfl (by decide) (by decide) rfl (by decide) rfl hl.1 rfl (Nat.le_of_ble_eq_true rfl) dX12_enters_28 ⟨Nat.zero_le _, Nat.zero_le _⟩ (fun H locs hP hD hS => ?_)
        refine lv_aload_n hx hb dX12_enters_31 rfl (lv_at hl 0 rfl) ?_
        refine va_get (D := D.1) (ci := 9) (v := .ref a0_turnFrom) (C := RX12) (T := TX12) (N := 20) hx hb hts hwX12 hown hK.1 hP 0 rfl rfl 8 (by decide) l27 (fun _ h9 => h9) rfl dX12_enters_32 ?_
        refine lv_iload hx hb dX12_enters_35 (lv_at hl 4 rfl) ?_
        refine lv_iconst (v := 1) hx hb dX12_enters_37 (by decide) ?_
        refine lv_isub hx hb dX12_enters_38 ?_
        obtain ⟨h_5, hf⟩ := gd hf
        refine va_iald hx hb hK.1 hP 3 1 rfl rfl h_5 dX12_enters_39 ?_
        obtain ⟨r6, hr6, hf⟩ := bd hf
        refine zVz (As := [.int r2, .int p3, .int r4, .int (g0_turnFrom ((x4 - (1 : Int32))).toNatClampNeg)]) (rest := []) (ci := 9) (q0 := 0) (wn := [(a0, .inr (9, [.ref a0_all, .ref a0_tape, .ref a0_isImage, .int v0_taped, .int v0_faultKind, .int v0_faultPlace, .int v0_undos, .ref a0_turnWord, .ref a0_turnFrom, .int v0_turns, .ref a0_pieceSign, .ref a0_pieceFrom, .int v0_pieces, .int v0_signs, .ref a0_runFrom, .ref a0_runLong, .ref a0_runPiece, .int v0_runs, .ref a0_alike, .ref a0_stood])), (a0_all, .inl (D.2 1, 5228, .inl g0_all)), (a0_turnWord, .inl (D.2 1, 320, .inl g0_turnWord)), (a0_turnFrom, .inl (D.2 1, 320, .inl g0_turnFrom))]) ⟨hx, hb, hml, hown, hts⟩ (mX12_isAhead l D a0 a0_all a0_tape a0_isImage a0_turnWord a0_turnFrom a0_pieceSign a0_pieceFrom a0_runFrom a0_runLong a0_runPiece a0_alike a0_stood H.size v0_taped v0_faultKind v0_faultPlace v0_undos v0_turns v0_pieces v0_signs v0_runs g0_all r2 p3 r4 (g0_turnFrom ((x4 - (1 : Int32))).toNatClampNeg) N r6 hr6) (cwV 4 hts gX12_enters_X12_isAhead rfl rfl rfl (by decide +kernel) ⟨Nat.le_of_ble_eq_true rfl, Nat.le_of_ble_eq_true rfl⟩) hK hP hD hS hA [0, 1] [2, 3] [2, 3, 0, 1] rfl (by decide) rfl (by decide) (by decide) rfl (by decide) rfl rfl rfl hl.1 rfl (Nat.le_of_ble_eq_true rfl) dX12_enters_40 ⟨Nat.zero_le _, Nat.zero_le _⟩ (fun H locs hb_7 hP hD hS => ?_)
        refine lv_if_eq (tgt := 84) hx hb dX12_enters_43 (by decide) (fun c_8 => ?_) (fun c_8 => ?_)
        · replace hf := ip c_8 hf
          exact k84 x4 v0_turns g0_turnWord g0_turnFrom H locs ls hf hP hD hS (lv_sub hl [0, 2, 3, 4] rfl)
        · replace hf := im c_8 hf
          refine lv_aload_n hx hb dX12_enters_46 rfl (lv_at hl 0 rfl) ?_
          refine va_get (D := D.1) (ci := 9) (v := .ref a0_turnWord) (C := RX12) (T := TX12) (N := 20) hx hb hts hwX12 hown hK.1 hP 0 rfl rfl 7 (by decide) l24 (fun _ h9 => h9) rfl dX12_enters_47 ?_
          refine lv_iload hx hb dX12_enters_50 (lv_at hl 4 rfl) ?_
          refine lv_aload_n hx hb dX12_enters_52 rfl (lv_at hl 0 rfl) ?_
          refine va_get (D := D.1) (ci := 9) (v := .ref a0_turnWord) (C := RX12) (T := TX12) (N := 20) hx hb hts hwX12 hown hK.1 hP 0 rfl rfl 7 (by decide) l24 (fun _ h9 => h9) rfl dX12_enters_53 ?_
          refine lv_iload hx hb dX12_enters_56 (lv_at hl 4 rfl) ?_
          refine lv_iconst (v := 1) hx hb dX12_enters_58 (by decide) ?_
          refine lv_isub hx hb dX12_enters_59 ?_
          obtain ⟨h_9, hf⟩ := gd hf
          refine va_iald hx hb hK.1 hP 2 1 rfl rfl h_9 dX12_enters_60 ?_
          obtain ⟨h_10, hf⟩ := gd hf
          refine va_iast hx hb hK.1 hP hD hS 2 1 rfl rfl h_10 dX12_enters_61 (fun H locs hP hD hS => ?_)
          have hP : va_P D.1 vwCl [(a0, .inr (9, [.ref a0_all, .ref a0_tape, .ref a0_isImage, .int v0_taped, .int v0_faultKind, .int v0_faultPlace, .int v0_undos, .ref a0_turnWord, .ref a0_turnFrom, .int v0_turns, .ref a0_pieceSign, .ref a0_pieceFrom, .int v0_pieces, .int v0_signs, .ref a0_runFrom, .ref a0_runLong, .ref a0_runPiece, .int v0_runs, .ref a0_alike, .ref a0_stood])), (a0_all, .inl (D.2 1, 5228, .inl g0_all)), (a0_turnWord, .inl (D.2 1, 320, .inl (upd g0_turnWord (x4).toNatClampNeg (g0_turnWord ((x4 - (1 : Int32))).toNatClampNeg)))), (a0_turnFrom, .inl (D.2 1, 320, .inl g0_turnFrom))] H := hP
          have hD : va_D A [(a0, .inr (9, [.ref a0_all, .ref a0_tape, .ref a0_isImage, .int v0_taped, .int v0_faultKind, .int v0_faultPlace, .int v0_undos, .ref a0_turnWord, .ref a0_turnFrom, .int v0_turns, .ref a0_pieceSign, .ref a0_pieceFrom, .int v0_pieces, .int v0_signs, .ref a0_runFrom, .ref a0_runLong, .ref a0_runPiece, .int v0_runs, .ref a0_alike, .ref a0_stood])), (a0_all, .inl (D.2 1, 5228, .inl g0_all)), (a0_turnWord, .inl (D.2 1, 320, .inl (upd g0_turnWord (x4).toNatClampNeg (g0_turnWord ((x4 - (1 : Int32))).toNatClampNeg)))), (a0_turnFrom, .inl (D.2 1, 320, .inl g0_turnFrom))] := hD
          refine lv_aload_n hx hb dX12_enters_62 rfl (lv_at hl 0 rfl) ?_
          refine va_get (D := D.1) (ci := 9) (v := .ref a0_turnFrom) (C := RX12) (T := TX12) (N := 20) hx hb hts hwX12 hown hK.1 hP 0 rfl rfl 8 (by decide) l27 (fun _ h9 => h9) rfl dX12_enters_63 ?_
          refine lv_iload hx hb dX12_enters_66 (lv_at hl 4 rfl) ?_
          refine lv_aload_n hx hb dX12_enters_68 rfl (lv_at hl 0 rfl) ?_
          refine va_get (D := D.1) (ci := 9) (v := .ref a0_turnFrom) (C := RX12) (T := TX12) (N := 20) hx hb hts hwX12 hown hK.1 hP 0 rfl rfl 8 (by decide) l27 (fun _ h9 => h9) rfl dX12_enters_69 ?_
          refine lv_iload hx hb dX12_enters_72 (lv_at hl 4 rfl) ?_
          refine lv_iconst (v := 1) hx hb dX12_enters_74 (by decide) ?_
          refine lv_isub hx hb dX12_enters_75 ?_
          obtain ⟨h_11, hf⟩ := gd hf
          refine va_iald hx hb hK.1 hP 3 1 rfl rfl h_11 dX12_enters_76 ?_
          obtain ⟨h_12, hf⟩ := gd hf
          refine va_iast hx hb hK.1 hP hD hS 3 1 rfl rfl h_12 dX12_enters_77 (fun H locs hP hD hS => ?_)
          have hP : va_P D.1 vwCl [(a0, .inr (9, [.ref a0_all, .ref a0_tape, .ref a0_isImage, .int v0_taped, .int v0_faultKind, .int v0_faultPlace, .int v0_undos, .ref a0_turnWord, .ref a0_turnFrom, .int v0_turns, .ref a0_pieceSign, .ref a0_pieceFrom, .int v0_pieces, .int v0_signs, .ref a0_runFrom, .ref a0_runLong, .ref a0_runPiece, .int v0_runs, .ref a0_alike, .ref a0_stood])), (a0_all, .inl (D.2 1, 5228, .inl g0_all)), (a0_turnWord, .inl (D.2 1, 320, .inl (upd g0_turnWord (x4).toNatClampNeg (g0_turnWord ((x4 - (1 : Int32))).toNatClampNeg)))), (a0_turnFrom, .inl (D.2 1, 320, .inl (upd g0_turnFrom (x4).toNatClampNeg (g0_turnFrom ((x4 - (1 : Int32))).toNatClampNeg))))] H := hP
          have hD : va_D A [(a0, .inr (9, [.ref a0_all, .ref a0_tape, .ref a0_isImage, .int v0_taped, .int v0_faultKind, .int v0_faultPlace, .int v0_undos, .ref a0_turnWord, .ref a0_turnFrom, .int v0_turns, .ref a0_pieceSign, .ref a0_pieceFrom, .int v0_pieces, .int v0_signs, .ref a0_runFrom, .ref a0_runLong, .ref a0_runPiece, .int v0_runs, .ref a0_alike, .ref a0_stood])), (a0_all, .inl (D.2 1, 5228, .inl g0_all)), (a0_turnWord, .inl (D.2 1, 320, .inl (upd g0_turnWord (x4).toNatClampNeg (g0_turnWord ((x4 - (1 : Int32))).toNatClampNeg)))), (a0_turnFrom, .inl (D.2 1, 320, .inl (upd g0_turnFrom (x4).toNatClampNeg (g0_turnFrom ((x4 - (1 : Int32))).toNatClampNeg))))] := hD
          refine lv_iinc (v := (x4 + (-1 : Int32))) (lv' := [(4, .int (x4 + (-1 : Int32))), (0, .ref a0), (1, .int p1), (2, .int p2), (3, .int p3)]) hx hb dX12_enters_78 hl (k := 4) rfl rfl (by decide) rfl (fun ls hl => ?_)
          refine lv_goto (tgt := 6) hx hb dX12_enters_81 (by decide) ?_
          exact ih (x4 + (-1 : Int32)) v0_turns (upd g0_turnWord (x4).toNatClampNeg (g0_turnWord ((x4 - (1 : Int32))).toNatClampNeg)) (upd g0_turnFrom (x4).toNatClampNeg (g0_turnFrom ((x4 - (1 : Int32))).toNatClampNeg)) H locs ls hf hP hD hS (lv_sub hl [1, 2, 3, 4, 0] rfl)
  unfold fX12_enters at hf
  refine lv_aload_n hx hb dX12_enters_0 rfl (lv_at hl 0 rfl) ?_
  refine va_get (D := D.1) (ci := 9) (v := .int v0_turns) (C := RX12) (T := TX12) (N := 20) hx hb hts hwX12 hown hK.1 hP 0 rfl rfl 9 (by decide) l87 (fun _ h9 => h9) rfl dX12_enters_1 ?_
  refine lv_istore (lv' := [(4, .int v0_turns), (0, .ref a0), (1, .int p1), (2, .int p2), (3, .int p3)]) hx hb dX12_enters_4 hl (by decide) rfl (fun ls hl => ?_)
  exact k6 N v0_turns v0_turns g0_turnWord g0_turnFrom H locs ls hf hP hD hS (lv_sub hl [1, 2, 3, 4, 0] rfl)
def fX12_laysTurns_19 (N : Nat) (g0_all : Nat → Int32) (p1 : Int32) (rec7 : Int32 → Int32 → (Nat → Int32) → (Nat → Int32) → Option (Int32 × (Nat → Int32) × (Nat → Int32))) : Nat → Int32 → Int32 → Int32 → (Nat → Int32) → (Nat → Int32) → Option (Int32 × (Nat → Int32) × (Nat → Int32))
  | 0, _, _, _, _, _ => none
  | K + 1, x2, x3, v0_turns, g0_turnWord, g0_turnFrom =>
    Option.bind (fX12_wordAt p1 x2) fun r3 =>
    if r3 < 0 ∨ 5228 ≤ (r3).toNatClampNeg then none else
    if (g0_all (r3).toNatClampNeg) < x3 then
      rec7 (x2 + (1 : Int32)) v0_turns g0_turnWord g0_turnFrom
    else
      Option.bind (fX12_enters N v0_turns g0_all g0_turnWord g0_turnFrom p1 x2 x3) fun r6 =>
      (fX12_laysTurns_19 N g0_all p1 rec7 K) x2 (x3 + (1 : Int32)) r6.1 r6.2.1 r6.2.2
def fX12_laysTurns_7 (N : Nat) (g0_all : Nat → Int32) (p1 : Int32) : Nat → Int32 → Int32 → (Nat → Int32) → (Nat → Int32) → Option (Int32 × (Nat → Int32) × (Nat → Int32))
  | 0, _, _, _, _ => none
  | K + 1, x2, v0_turns, g0_turnWord, g0_turnFrom =>
    if p1 < 0 ∨ 5228 ≤ (p1).toNatClampNeg then none else
    if (g0_all (p1).toNatClampNeg) ≤ x2 then
      some (v0_turns, g0_turnWord, g0_turnFrom)
    else
      fX12_laysTurns_19 N g0_all p1 (fX12_laysTurns_7 N g0_all p1 K) N x2 (0 : Int32) v0_turns g0_turnWord g0_turnFrom
def fX12_laysTurns (N : Nat) (v0_turns : Int32) (g0_all : Nat → Int32) (g0_turnWord : Nat → Int32) (g0_turnFrom : Nat → Int32) (p1 : Int32) : Option (Int32 × (Nat → Int32) × (Nat → Int32)) :=
  fX12_laysTurns_7 N g0_all p1 N (0 : Int32) (0 : Int32) g0_turnWord g0_turnFrom
set_option maxHeartbeats 4000000 in
set_option maxRecDepth 100000 in
theorem mX12_laysTurns (l : Launch) (D : zG) (a0 : Nat) (a0_all : Nat) (a0_tape : Nat) (a0_isImage : Nat) (a0_turnWord : Nat) (a0_turnFrom : Nat) (a0_pieceSign : Nat) (a0_pieceFrom : Nat) (a0_runFrom : Nat) (a0_runLong : Nat) (a0_runPiece : Nat) (a0_alike : Nat) (a0_stood : Nat) (sz : Nat)  (v0_taped : Int32) (v0_faultKind : Int32) (v0_faultPlace : Int32) (v0_undos : Int32) (v0_turns : Int32) (v0_pieces : Int32) (v0_signs : Int32) (v0_runs : Int32) (g0_all : Nat → Int32) (g0_turnWord : Nat → Int32) (g0_turnFrom : Nat → Int32) (p1 : Int32) (N : Nat) (res : Int32 × (Nat → Int32) × (Nat → Int32)) (hf : fX12_laysTurns N v0_turns g0_all g0_turnWord g0_turnFrom p1 = some res) : Met l yX12_laysTurns wsX12_laysTurns ({ frames := 3, cells := 0, slots := 0, locals := 75 } : Room) (va_Pc [.ref a0, .int p1] (zW D sz [(a0, .inr (9, [.ref a0_all, .ref a0_tape, .ref a0_isImage, .int v0_taped, .int v0_faultKind, .int v0_faultPlace, .int v0_undos, .ref a0_turnWord, .ref a0_turnFrom, .int v0_turns, .ref a0_pieceSign, .ref a0_pieceFrom, .int v0_pieces, .int v0_signs, .ref a0_runFrom, .ref a0_runLong, .ref a0_runPiece, .int v0_runs, .ref a0_alike, .ref a0_stood])), (a0_all, .inl (D.2 1, 5228, .inl g0_all)), (a0_turnWord, .inl (D.2 1, 320, .inl g0_turnWord)), (a0_turnFrom, .inl (D.2 1, 320, .inl g0_turnFrom))])) (va_Qv (fun (_ : Unit) => True) (fun _ => zB D (va_A [(a0, .inr (9, [.ref a0_all, .ref a0_tape, .ref a0_isImage, .int v0_taped, .int v0_faultKind, .int v0_faultPlace, .int v0_undos, .ref a0_turnWord, .ref a0_turnFrom, .int v0_turns, .ref a0_pieceSign, .ref a0_pieceFrom, .int v0_pieces, .int v0_signs, .ref a0_runFrom, .ref a0_runLong, .ref a0_runPiece, .int v0_runs, .ref a0_alike, .ref a0_stood])), (a0_all, .inl (D.2 1, 5228, .inl g0_all)), (a0_turnWord, .inl (D.2 1, 320, .inl g0_turnWord)), (a0_turnFrom, .inl (D.2 1, 320, .inl g0_turnFrom))] sz) [(a0, .inr (9, [.ref a0_all, .ref a0_tape, .ref a0_isImage, .int v0_taped, .int v0_faultKind, .int v0_faultPlace, .int v0_undos, .ref a0_turnWord, .ref a0_turnFrom, .int res.1, .ref a0_pieceSign, .ref a0_pieceFrom, .int v0_pieces, .int v0_signs, .ref a0_runFrom, .ref a0_runLong, .ref a0_runPiece, .int v0_runs, .ref a0_alike, .ref a0_stood])), (a0_all, .inl (D.2 1, 5228, .inl g0_all)), (a0_turnWord, .inl (D.2 1, 320, .inl res.2.1)), (a0_turnFrom, .inl (D.2 1, 320, .inl res.2.2))]) (va_A [(a0, .inr (9, [.ref a0_all, .ref a0_tape, .ref a0_isImage, .int v0_taped, .int v0_faultKind, .int v0_faultPlace, .int v0_undos, .ref a0_turnWord, .ref a0_turnFrom, .int v0_turns, .ref a0_pieceSign, .ref a0_pieceFrom, .int v0_pieces, .int v0_signs, .ref a0_runFrom, .ref a0_runLong, .ref a0_runPiece, .int v0_runs, .ref a0_alike, .ref a0_stood])), (a0_all, .inl (D.2 1, 5228, .inl g0_all)), (a0_turnWord, .inl (D.2 1, 320, .inl g0_turnWord)), (a0_turnFrom, .inl (D.2 1, 320, .inl g0_turnFrom))] sz)) 0 0 (va_A [(a0, .inr (9, [.ref a0_all, .ref a0_tape, .ref a0_isImage, .int v0_taped, .int v0_faultKind, .int v0_faultPlace, .int v0_undos, .ref a0_turnWord, .ref a0_turnFrom, .int v0_turns, .ref a0_pieceSign, .ref a0_pieceFrom, .int v0_pieces, .int v0_signs, .ref a0_runFrom, .ref a0_runLong, .ref a0_runPiece, .int v0_runs, .ref a0_alike, .ref a0_stood])), (a0_all, .inl (D.2 1, 5228, .inl g0_all)), (a0_turnWord, .inl (D.2 1, 320, .inl g0_turnWord)), (a0_turnFrom, .inl (D.2 1, 320, .inl g0_turnFrom))] sz) := by
  refine Met.ofW (cc := cX12_laysTurns) (maxL := 4) (ret := none) (by decide) rfl ?_
  intro p e s m args below meth c s₁ B hml hv
  obtain ⟨rfl, hsz, hP, hK, hD0⟩ := hv
  have hx := B.exec
  have hb := B.bytes
  have hr := B.returns
  have hts := atoms_spec (ws := wsX12_laysTurns) B.pre
  have hown : s.vm.findClass RX12 = some m.cls := findClass_of_methodNamed B.named
  have hlocks := B.notSynchronized
  subst hsz
  have hD := hD0.self (sz := s.heap.size)
  generalize hAe : va_A [(a0, .inr (9, [.ref a0_all, .ref a0_tape, .ref a0_isImage, .int v0_taped, .int v0_faultKind, .int v0_faultPlace, .int v0_undos, .ref a0_turnWord, .ref a0_turnFrom, .int v0_turns, .ref a0_pieceSign, .ref a0_pieceFrom, .int v0_pieces, .int v0_signs, .ref a0_runFrom, .ref a0_runLong, .ref a0_runPiece, .int v0_runs, .ref a0_alike, .ref a0_stood])), (a0_all, .inl (D.2 1, 5228, .inl g0_all)), (a0_turnWord, .inl (D.2 1, 320, .inl g0_turnWord)), (a0_turnFrom, .inl (D.2 1, 320, .inl g0_turnFrom))] s.heap.size = A at hD ⊢
  have hA : ∀ q : Nat, s.heap.size ≤ q → A q := fun q h => by rw [← hAe]; exact Or.inr h
  have l87 := zat hts 1 (w := .fieldLink RX12 87 "TurnedWordsModel" "turns" "I") rfl
  have l7 := zat hts 2 (w := .fieldLink RX12 7 "TurnedWordsModel" "all" "[I") rfl
  have hwX12 : ∀ w ∈ u_ws RX12 TX12 20, w ∈ wsX12_laysTurns := fun w h => List.mem_cons_of_mem _ (List.mem_append_right _ h)
  have hl := lv_entry ([.ref a0, .int p1]) (n := 4) (Nat.le_of_ble_eq_true rfl)
  rw [lg_entry_eq]
  generalize (lg_sl ([.ref a0, .int p1]) ++ List.replicate (4 - (lg_sl ([.ref a0, .int p1])).length) Slot.unset).toArray = ls at hl ⊢
  have hl : lv_has ls 4 [(0, .ref a0), (1, .int p1)] := hl
  refine zStart (A := A) hP (fun Q0 H locs hQ hP hS => ?_)
  have k19 : ∀ (rec7 : Int32 → Int32 → (Nat → Int32) → (Nat → Int32) → Option (Int32 × (Nat → Int32) × (Nat → Int32))), (∀ (x2 : Int32) (v0_turns : Int32) (g0_turnWord : Nat → Int32) (g0_turnFrom : Nat → Int32) (H : Heap) (locs : List Loc) (ls : Array Slot), rec7 x2 v0_turns g0_turnWord g0_turnFrom = some res → va_P D.1 vwCl [(a0, .inr (9, [.ref a0_all, .ref a0_tape, .ref a0_isImage, .int v0_taped, .int v0_faultKind, .int v0_faultPlace, .int v0_undos, .ref a0_turnWord, .ref a0_turnFrom, .int v0_turns, .ref a0_pieceSign, .ref a0_pieceFrom, .int v0_pieces, .int v0_signs, .ref a0_runFrom, .ref a0_runLong, .ref a0_runPiece, .int v0_runs, .ref a0_alike, .ref a0_stood])), (a0_all, .inl (D.2 1, 5228, .inl g0_all)), (a0_turnWord, .inl (D.2 1, 320, .inl g0_turnWord)), (a0_turnFrom, .inl (D.2 1, 320, .inl g0_turnFrom))] H → va_D A [(a0, .inr (9, [.ref a0_all, .ref a0_tape, .ref a0_isImage, .int v0_taped, .int v0_faultKind, .int v0_faultPlace, .int v0_undos, .ref a0_turnWord, .ref a0_turnFrom, .int v0_turns, .ref a0_pieceSign, .ref a0_pieceFrom, .int v0_pieces, .int v0_signs, .ref a0_runFrom, .ref a0_runLong, .ref a0_runPiece, .int v0_runs, .ref a0_alike, .ref a0_stood])), (a0_all, .inl (D.2 1, 5228, .inl g0_all)), (a0_turnWord, .inl (D.2 1, 320, .inl g0_turnWord)), (a0_turnFrom, .inl (D.2 1, 320, .inl g0_turnFrom))] → va_S A s.heap H locs → lv_has ls 4 [(0, .ref a0), (1, .int p1), (2, .int x2)] → W p l e (headSpec wsX12_laysTurns ({ frames := 3, cells := 0, slots := 0, locals := 75 } : Room)).room s m ([.ref a0, .int p1] : List Value).toArray below meth c H locs 0 0 Q0 (F0 m 7 ls [])) → ∀ K : Nat, ∀ (x2 : Int32) (x3 : Int32) (v0_turns : Int32) (g0_turnWord : Nat → Int32) (g0_turnFrom : Nat → Int32) (H : Heap) (locs : List Loc) (ls : Array Slot), fX12_laysTurns_19 N g0_all p1 rec7 K x2 x3 v0_turns g0_turnWord g0_turnFrom = some res → va_P D.1 vwCl [(a0, .inr (9, [.ref a0_all, .ref a0_tape, .ref a0_isImage, .int v0_taped, .int v0_faultKind, .int v0_faultPlace, .int v0_undos, .ref a0_turnWord, .ref a0_turnFrom, .int v0_turns, .ref a0_pieceSign, .ref a0_pieceFrom, .int v0_pieces, .int v0_signs, .ref a0_runFrom, .ref a0_runLong, .ref a0_runPiece, .int v0_runs, .ref a0_alike, .ref a0_stood])), (a0_all, .inl (D.2 1, 5228, .inl g0_all)), (a0_turnWord, .inl (D.2 1, 320, .inl g0_turnWord)), (a0_turnFrom, .inl (D.2 1, 320, .inl g0_turnFrom))] H → va_D A [(a0, .inr (9, [.ref a0_all, .ref a0_tape, .ref a0_isImage, .int v0_taped, .int v0_faultKind, .int v0_faultPlace, .int v0_undos, .ref a0_turnWord, .ref a0_turnFrom, .int v0_turns, .ref a0_pieceSign, .ref a0_pieceFrom, .int v0_pieces, .int v0_signs, .ref a0_runFrom, .ref a0_runLong, .ref a0_runPiece, .int v0_runs, .ref a0_alike, .ref a0_stood])), (a0_all, .inl (D.2 1, 5228, .inl g0_all)), (a0_turnWord, .inl (D.2 1, 320, .inl g0_turnWord)), (a0_turnFrom, .inl (D.2 1, 320, .inl g0_turnFrom))] → va_S A s.heap H locs → lv_has ls 4 [(0, .ref a0), (1, .int p1), (2, .int x2), (3, .int x3)] → W p l e (headSpec wsX12_laysTurns ({ frames := 3, cells := 0, slots := 0, locals := 75 } : Room)).room s m ([.ref a0, .int p1] : List Value).toArray below meth c H locs 0 0 Q0 (F0 m 19 ls []) := by
    intro rec7 hrec7 K
    induction K with
    | zero =>
      intro x2 x3 v0_turns g0_turnWord g0_turnFrom H locs ls hf
      rw [fX12_laysTurns_19] at hf
      cases hf
    | succ K ih =>
      intro x2 x3 v0_turns g0_turnWord g0_turnFrom H locs ls hf hP hD hS hl
      rw [fX12_laysTurns_19] at hf
      refine lv_iload_n hx hb dX12_laysTurns_19 rfl (lv_at hl 3 rfl) ?_
      refine lv_aload_n hx hb dX12_laysTurns_20 rfl (lv_at hl 0 rfl) ?_
      refine va_get (D := D.1) (ci := 9) (v := .ref a0_all) (C := RX12) (T := TX12) (N := 20) hx hb hts hwX12 hown hK.1 hP 0 rfl rfl 0 (by decide) l7 (fun _ h9 => h9) rfl dX12_laysTurns_21 ?_
      refine lv_iload_n hx hb dX12_laysTurns_24 rfl (lv_at hl 1 rfl) ?_
      refine lv_iload_n hx hb dX12_laysTurns_25 rfl (lv_at hl 2 rfl) ?_
      obtain ⟨r3, hr3, hf⟩ := bd hf
      refine zSi (As := [.int p1, .int x2]) (rest := [.ref a0_all, .int x3]) (wn := [(a0, .inr (9, [.ref a0_all, .ref a0_tape, .ref a0_isImage, .int v0_taped, .int v0_faultKind, .int v0_faultPlace, .int v0_undos, .ref a0_turnWord, .ref a0_turnFrom, .int v0_turns, .ref a0_pieceSign, .ref a0_pieceFrom, .int v0_pieces, .int v0_signs, .ref a0_runFrom, .ref a0_runLong, .ref a0_runPiece, .int v0_runs, .ref a0_alike, .ref a0_stood])), (a0_all, .inl (D.2 1, 5228, .inl g0_all)), (a0_turnWord, .inl (D.2 1, 320, .inl g0_turnWord)), (a0_turnFrom, .inl (D.2 1, 320, .inl g0_turnFrom))]) ⟨hx, hb, hml, hown, hts⟩ (mX12_wordAt l D H.size p1 x2 r3 hr3) (va_cwS 2 hts gX12_laysTurns_X12_wordAt rfl rfl rfl (by decide +kernel) ⟨Nat.le_of_ble_eq_true rfl, Nat.le_of_ble_eq_true rfl⟩) hK hP hD hS hA [] [0, 1, 2, 3] [0, 1, 2, 3] rfl (by decide) rfl (by decide) (by decide) rfl (by decide) rfl hl.1 rfl (Nat.le_of_ble_eq_true rfl) dX12_laysTurns_26 ⟨Nat.zero_le _, Nat.zero_le _⟩ (fun H locs hP hD hS => ?_)
      obtain ⟨h_4, hf⟩ := gd hf
      refine va_iald hx hb hK.1 hP 1 1 rfl rfl h_4 dX12_laysTurns_29 ?_
      refine lv_icmp_gt (tgt := 46) hx hb dX12_laysTurns_30 (by decide) (fun c_5 => ?_) (fun c_5 => ?_)
      · replace hf := ip c_5 hf
        refine lv_iinc (v := (x2 + (1 : Int32))) (lv' := [(2, .int (x2 + (1 : Int32))), (0, .ref a0), (1, .int p1), (3, .int x3)]) hx hb dX12_laysTurns_46 hl (k := 2) rfl rfl (by decide) rfl (fun ls hl => ?_)
        refine lv_goto (tgt := 7) hx hb dX12_laysTurns_49 (by decide) ?_
        exact hrec7 (x2 + (1 : Int32)) v0_turns g0_turnWord g0_turnFrom H locs ls hf hP hD hS (lv_sub hl [1, 2, 0] rfl)
      · replace hf := im c_5 hf
        refine lv_aload_n hx hb dX12_laysTurns_33 rfl (lv_at hl 0 rfl) ?_
        refine lv_iload_n hx hb dX12_laysTurns_34 rfl (lv_at hl 1 rfl) ?_
        refine lv_iload_n hx hb dX12_laysTurns_35 rfl (lv_at hl 2 rfl) ?_
        refine lv_iload_n hx hb dX12_laysTurns_36 rfl (lv_at hl 3 rfl) ?_
        obtain ⟨r6, hr6, hf⟩ := bd hf
        refine zVv (As := [.int p1, .int x2, .int x3]) (rest := []) (ci := 9) (q0 := 0) (wn := [(a0, .inr (9, [.ref a0_all, .ref a0_tape, .ref a0_isImage, .int v0_taped, .int v0_faultKind, .int v0_faultPlace, .int v0_undos, .ref a0_turnWord, .ref a0_turnFrom, .int r6.1, .ref a0_pieceSign, .ref a0_pieceFrom, .int v0_pieces, .int v0_signs, .ref a0_runFrom, .ref a0_runLong, .ref a0_runPiece, .int v0_runs, .ref a0_alike, .ref a0_stood])), (a0_all, .inl (D.2 1, 5228, .inl g0_all)), (a0_turnWord, .inl (D.2 1, 320, .inl r6.2.1)), (a0_turnFrom, .inl (D.2 1, 320, .inl r6.2.2))]) ⟨hx, hb, hml, hown, hts⟩ (mX12_enters l D a0 a0_all a0_tape a0_isImage a0_turnWord a0_turnFrom a0_pieceSign a0_pieceFrom a0_runFrom a0_runLong a0_runPiece a0_alike a0_stood H.size v0_taped v0_faultKind v0_faultPlace v0_undos v0_turns v0_pieces v0_signs v0_runs g0_all g0_turnWord g0_turnFrom p1 x2 x3 N r6 hr6) (cwV 3 hts gX12_laysTurns_X12_enters rfl rfl rfl (by decide +kernel) ⟨Nat.le_of_ble_eq_true rfl, Nat.le_of_ble_eq_true rfl⟩) hK hP hD hS hA [0, 1, 2, 3] [] [0, 1, 2, 3] rfl (by decide) rfl (by decide) (by decide) rfl (by decide) rfl rfl rfl hl.1 rfl (Nat.le_of_ble_eq_true rfl) dX12_laysTurns_37 ⟨Nat.zero_le _, Nat.zero_le _⟩ (fun H locs hP hD hS => ?_)
        refine lv_iinc (v := (x3 + (1 : Int32))) (lv' := [(3, .int (x3 + (1 : Int32))), (0, .ref a0), (1, .int p1), (2, .int x2)]) hx hb dX12_laysTurns_40 hl (k := 3) rfl rfl (by decide) rfl (fun ls hl => ?_)
        refine lv_goto (tgt := 19) hx hb dX12_laysTurns_43 (by decide) ?_
        exact ih x2 (x3 + (1 : Int32)) r6.1 r6.2.1 r6.2.2 H locs ls hf hP hD hS (lv_sub hl [1, 2, 3, 0] rfl)
  have k7 : ∀ K : Nat, ∀ (x2 : Int32) (v0_turns : Int32) (g0_turnWord : Nat → Int32) (g0_turnFrom : Nat → Int32) (H : Heap) (locs : List Loc) (ls : Array Slot), fX12_laysTurns_7 N g0_all p1 K x2 v0_turns g0_turnWord g0_turnFrom = some res → va_P D.1 vwCl [(a0, .inr (9, [.ref a0_all, .ref a0_tape, .ref a0_isImage, .int v0_taped, .int v0_faultKind, .int v0_faultPlace, .int v0_undos, .ref a0_turnWord, .ref a0_turnFrom, .int v0_turns, .ref a0_pieceSign, .ref a0_pieceFrom, .int v0_pieces, .int v0_signs, .ref a0_runFrom, .ref a0_runLong, .ref a0_runPiece, .int v0_runs, .ref a0_alike, .ref a0_stood])), (a0_all, .inl (D.2 1, 5228, .inl g0_all)), (a0_turnWord, .inl (D.2 1, 320, .inl g0_turnWord)), (a0_turnFrom, .inl (D.2 1, 320, .inl g0_turnFrom))] H → va_D A [(a0, .inr (9, [.ref a0_all, .ref a0_tape, .ref a0_isImage, .int v0_taped, .int v0_faultKind, .int v0_faultPlace, .int v0_undos, .ref a0_turnWord, .ref a0_turnFrom, .int v0_turns, .ref a0_pieceSign, .ref a0_pieceFrom, .int v0_pieces, .int v0_signs, .ref a0_runFrom, .ref a0_runLong, .ref a0_runPiece, .int v0_runs, .ref a0_alike, .ref a0_stood])), (a0_all, .inl (D.2 1, 5228, .inl g0_all)), (a0_turnWord, .inl (D.2 1, 320, .inl g0_turnWord)), (a0_turnFrom, .inl (D.2 1, 320, .inl g0_turnFrom))] → va_S A s.heap H locs → lv_has ls 4 [(0, .ref a0), (1, .int p1), (2, .int x2)] → W p l e (headSpec wsX12_laysTurns ({ frames := 3, cells := 0, slots := 0, locals := 75 } : Room)).room s m ([.ref a0, .int p1] : List Value).toArray below meth c H locs 0 0 Q0 (F0 m 7 ls []) := by
    intro K
    induction K with
    | zero =>
      intro x2 v0_turns g0_turnWord g0_turnFrom H locs ls hf
      rw [fX12_laysTurns_7] at hf
      cases hf
    | succ K ih =>
      intro x2 v0_turns g0_turnWord g0_turnFrom H locs ls hf hP hD hS hl
      rw [fX12_laysTurns_7] at hf
      refine lv_iload_n hx hb dX12_laysTurns_7 rfl (lv_at hl 2 rfl) ?_
      refine lv_aload_n hx hb dX12_laysTurns_8 rfl (lv_at hl 0 rfl) ?_
      refine va_get (D := D.1) (ci := 9) (v := .ref a0_all) (C := RX12) (T := TX12) (N := 20) hx hb hts hwX12 hown hK.1 hP 0 rfl rfl 0 (by decide) l7 (fun _ h9 => h9) rfl dX12_laysTurns_9 ?_
      refine lv_iload_n hx hb dX12_laysTurns_12 rfl (lv_at hl 1 rfl) ?_
      obtain ⟨h_1, hf⟩ := gd hf
      refine va_iald hx hb hK.1 hP 1 1 rfl rfl h_1 dX12_laysTurns_13 ?_
      refine lv_icmp_ge (tgt := 52) hx hb dX12_laysTurns_14 (by decide) (fun c_2 => ?_) (fun c_2 => ?_)
      · replace hf := ip c_2 hf
        have he := Option.some.inj hf
        rw [hQ]
        exact W.vret hx hb hr (fun t ht hW => by rw [← he]; exact ⟨⟨(), rfl, trivial, by rw [ht]; exact hP, hD⟩, hS.F ht⟩) hS.2.2 dX12_laysTurns_52
      · replace hf := im c_2 hf
        refine lv_iconst (v := 0) hx hb dX12_laysTurns_17 (by decide) ?_
        refine lv_istore_n (lv' := [(3, .int (0 : Int32)), (0, .ref a0), (1, .int p1), (2, .int x2)]) hx hb dX12_laysTurns_18 rfl hl (by decide) rfl (fun ls hl => ?_)
        exact k19 _ ih N x2 (0 : Int32) v0_turns g0_turnWord g0_turnFrom H locs ls hf hP hD hS (lv_sub hl [1, 2, 3, 0] rfl)
  unfold fX12_laysTurns at hf
  refine lv_aload_n hx hb dX12_laysTurns_0 rfl (lv_at hl 0 rfl) ?_
  refine lv_iconst (v := 0) hx hb dX12_laysTurns_1 (by decide) ?_
  refine va_put (D := D.1) (ci := 9) (v := .int (0 : Int32)) (ty := .int) (C := RX12) (T := TX12) (N := 20) hx hb hts hwX12 tyX12 tyX12_ok nmX12 hown hK.1 hP hD hS 0 rfl rfl 9 (by decide) l87 (fun _ h9 => h9) rfl (by decide +kernel) rfl rfl (Nat.le_of_ble_eq_true rfl) dX12_laysTurns_2 (fun H locs hP hD hS => ?_)
  have hP : va_P D.1 vwCl [(a0, .inr (9, [.ref a0_all, .ref a0_tape, .ref a0_isImage, .int v0_taped, .int v0_faultKind, .int v0_faultPlace, .int v0_undos, .ref a0_turnWord, .ref a0_turnFrom, .int (0 : Int32), .ref a0_pieceSign, .ref a0_pieceFrom, .int v0_pieces, .int v0_signs, .ref a0_runFrom, .ref a0_runLong, .ref a0_runPiece, .int v0_runs, .ref a0_alike, .ref a0_stood])), (a0_all, .inl (D.2 1, 5228, .inl g0_all)), (a0_turnWord, .inl (D.2 1, 320, .inl g0_turnWord)), (a0_turnFrom, .inl (D.2 1, 320, .inl g0_turnFrom))] H := hP
  have hD : va_D A [(a0, .inr (9, [.ref a0_all, .ref a0_tape, .ref a0_isImage, .int v0_taped, .int v0_faultKind, .int v0_faultPlace, .int v0_undos, .ref a0_turnWord, .ref a0_turnFrom, .int (0 : Int32), .ref a0_pieceSign, .ref a0_pieceFrom, .int v0_pieces, .int v0_signs, .ref a0_runFrom, .ref a0_runLong, .ref a0_runPiece, .int v0_runs, .ref a0_alike, .ref a0_stood])), (a0_all, .inl (D.2 1, 5228, .inl g0_all)), (a0_turnWord, .inl (D.2 1, 320, .inl g0_turnWord)), (a0_turnFrom, .inl (D.2 1, 320, .inl g0_turnFrom))] := hD
  refine lv_iconst (v := 0) hx hb dX12_laysTurns_5 (by decide) ?_
  refine lv_istore_n (lv' := [(2, .int (0 : Int32)), (0, .ref a0), (1, .int p1)]) hx hb dX12_laysTurns_6 rfl hl (by decide) rfl (fun ls hl => ?_)
  exact k7 N (0 : Int32) (0 : Int32) g0_turnWord g0_turnFrom H locs ls hf hP hD hS (lv_sub hl [1, 2, 0] rfl)
