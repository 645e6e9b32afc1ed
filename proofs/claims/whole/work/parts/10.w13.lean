def fX11_sharedWords_8 (N : Nat) (v0_cut_runs : Int32) (g0_cut_lengths : Nat → Int32) (g0_cut_heads : Nat → Int64) (v0_index_turns_size : Int32) (g0_index_turns_rows : Nat → Int64) : Nat → Int64 → Int32 → Option (Int64)
  | 0, _, _ => none
  | K + 1, x1, x3 =>
    Option.bind (fX1_runs v0_cut_runs) fun r2 =>
    if r2 ≤ x3 then
      some (x1)
    else
      Option.bind (fX11_wordsOfRun N v0_cut_runs g0_cut_lengths g0_cut_heads v0_index_turns_size g0_index_turns_rows x3) fun r4 =>
      (fX11_sharedWords_8 N v0_cut_runs g0_cut_lengths g0_cut_heads v0_index_turns_size g0_index_turns_rows K) (x1 &&& r4) (x3 + (1 : Int32))
def fX11_sharedWords (N : Nat) (v0_cut_runs : Int32) (g0_cut_lengths : Nat → Int32) (g0_cut_heads : Nat → Int64) (v0_index_turns_size : Int32) (g0_index_turns_rows : Nat → Int64) : Option (Int64) :=
  Option.bind (fX11_wordsOfRun N v0_cut_runs g0_cut_lengths g0_cut_heads v0_index_turns_size g0_index_turns_rows (0 : Int32)) fun r1 =>
  fX11_sharedWords_8 N v0_cut_runs g0_cut_lengths g0_cut_heads v0_index_turns_size g0_index_turns_rows N r1 (1 : Int32)
set_option maxHeartbeats 4000000 in
set_option maxRecDepth 100000 in
theorem mX11_sharedWords (l : Launch) (D : zG) (a0 : Nat) (a0_now : Nat) (a0_images : Nat) (a0_merges : Nat) (a0_cut : Nat) (a0_index : Nat) (a0_otherIndex : Nat) (a0_readWords : Nat) (a0_triedPattern : Nat) (a0_alike : Nat) (a0_cut_signs : Nat) (a0_cut_starts : Nat) (a0_cut_lengths : Nat) (a0_cut_piecesOfRuns : Nat) (a0_cut_heads : Nat) (a0_index_turns : Nat) (a0_index_turns_rows : Nat) (sz : Nat)  (v0_cut_size : Int32) (v0_cut_runs : Int32) (v0_cut_pieces : Int32) (v0_cut_inRun : Int32) (g0_cut_lengths : Nat → Int32) (g0_cut_heads : Nat → Int64) (v0_index_turns_size : Int32) (g0_index_turns_rows : Nat → Int64)  (N : Nat) (res : Int64) (hf : fX11_sharedWords N v0_cut_runs g0_cut_lengths g0_cut_heads v0_index_turns_size g0_index_turns_rows = some res) : Met l yX11_sharedWords wsX11_sharedWords ({ frames := 5, cells := 0, slots := 0, locals := 118 } : Room) (va_Pc [.ref a0] (zW D sz [(a0, .inr (8, [.ref a0_now, .ref a0_images, .ref a0_merges, .ref a0_cut, .ref a0_index, .ref a0_otherIndex, .ref a0_readWords, .ref a0_triedPattern, .ref a0_alike])), (a0_cut, .inr (0, [.ref a0_cut_signs, .ref a0_cut_starts, .ref a0_cut_lengths, .ref a0_cut_piecesOfRuns, .ref a0_cut_heads, .int v0_cut_size, .int v0_cut_runs, .int v0_cut_pieces, .int v0_cut_inRun])), (a0_cut_lengths, .inl (D.2 1, 13, .inl g0_cut_lengths)), (a0_cut_heads, .inl (D.2 2, 13, .inr (.inl g0_cut_heads))), (a0_index, .inr (2, [.ref a0_index_turns])), (a0_index_turns, .inr (5, [.ref a0_index_turns_rows, .int v0_index_turns_size])), (a0_index_turns_rows, .inl (D.2 2, 320, .inr (.inl g0_index_turns_rows)))])) (va_Ql (fun r (_ : Unit) => r = res) (fun _ => zB D (va_A [(a0, .inr (8, [.ref a0_now, .ref a0_images, .ref a0_merges, .ref a0_cut, .ref a0_index, .ref a0_otherIndex, .ref a0_readWords, .ref a0_triedPattern, .ref a0_alike])), (a0_cut, .inr (0, [.ref a0_cut_signs, .ref a0_cut_starts, .ref a0_cut_lengths, .ref a0_cut_piecesOfRuns, .ref a0_cut_heads, .int v0_cut_size, .int v0_cut_runs, .int v0_cut_pieces, .int v0_cut_inRun])), (a0_cut_lengths, .inl (D.2 1, 13, .inl g0_cut_lengths)), (a0_cut_heads, .inl (D.2 2, 13, .inr (.inl g0_cut_heads))), (a0_index, .inr (2, [.ref a0_index_turns])), (a0_index_turns, .inr (5, [.ref a0_index_turns_rows, .int v0_index_turns_size])), (a0_index_turns_rows, .inl (D.2 2, 320, .inr (.inl g0_index_turns_rows)))] sz) [(a0, .inr (8, [.ref a0_now, .ref a0_images, .ref a0_merges, .ref a0_cut, .ref a0_index, .ref a0_otherIndex, .ref a0_readWords, .ref a0_triedPattern, .ref a0_alike])), (a0_cut, .inr (0, [.ref a0_cut_signs, .ref a0_cut_starts, .ref a0_cut_lengths, .ref a0_cut_piecesOfRuns, .ref a0_cut_heads, .int v0_cut_size, .int v0_cut_runs, .int v0_cut_pieces, .int v0_cut_inRun])), (a0_cut_lengths, .inl (D.2 1, 13, .inl g0_cut_lengths)), (a0_cut_heads, .inl (D.2 2, 13, .inr (.inl g0_cut_heads))), (a0_index, .inr (2, [.ref a0_index_turns])), (a0_index_turns, .inr (5, [.ref a0_index_turns_rows, .int v0_index_turns_size])), (a0_index_turns_rows, .inl (D.2 2, 320, .inr (.inl g0_index_turns_rows)))]) (va_A [(a0, .inr (8, [.ref a0_now, .ref a0_images, .ref a0_merges, .ref a0_cut, .ref a0_index, .ref a0_otherIndex, .ref a0_readWords, .ref a0_triedPattern, .ref a0_alike])), (a0_cut, .inr (0, [.ref a0_cut_signs, .ref a0_cut_starts, .ref a0_cut_lengths, .ref a0_cut_piecesOfRuns, .ref a0_cut_heads, .int v0_cut_size, .int v0_cut_runs, .int v0_cut_pieces, .int v0_cut_inRun])), (a0_cut_lengths, .inl (D.2 1, 13, .inl g0_cut_lengths)), (a0_cut_heads, .inl (D.2 2, 13, .inr (.inl g0_cut_heads))), (a0_index, .inr (2, [.ref a0_index_turns])), (a0_index_turns, .inr (5, [.ref a0_index_turns_rows, .int v0_index_turns_size])), (a0_index_turns_rows, .inl (D.2 2, 320, .inr (.inl g0_index_turns_rows)))] sz)) 0 0 (va_A [(a0, .inr (8, [.ref a0_now, .ref a0_images, .ref a0_merges, .ref a0_cut, .ref a0_index, .ref a0_otherIndex, .ref a0_readWords, .ref a0_triedPattern, .ref a0_alike])), (a0_cut, .inr (0, [.ref a0_cut_signs, .ref a0_cut_starts, .ref a0_cut_lengths, .ref a0_cut_piecesOfRuns, .ref a0_cut_heads, .int v0_cut_size, .int v0_cut_runs, .int v0_cut_pieces, .int v0_cut_inRun])), (a0_cut_lengths, .inl (D.2 1, 13, .inl g0_cut_lengths)), (a0_cut_heads, .inl (D.2 2, 13, .inr (.inl g0_cut_heads))), (a0_index, .inr (2, [.ref a0_index_turns])), (a0_index_turns, .inr (5, [.ref a0_index_turns_rows, .int v0_index_turns_size])), (a0_index_turns_rows, .inl (D.2 2, 320, .inr (.inl g0_index_turns_rows)))] sz) := by
  refine Met.ofW (cc := cX11_sharedWords) (maxL := 4) (ret := (some .long)) (by decide) rfl ?_
  intro p e s m args below meth c s₁ B hml hv
  obtain ⟨rfl, hsz, hP, hK, hD0⟩ := hv
  have hx := B.exec
  have hb := B.bytes
  have hr := B.returns
  have hts := atoms_spec (ws := wsX11_sharedWords) B.pre
  have hown : s.vm.findClass RX11 = some m.cls := findClass_of_methodNamed B.named
  have hlocks := B.notSynchronized
  subst hsz
  have hD := hD0.self (sz := s.heap.size)
  generalize hAe : va_A [(a0, .inr (8, [.ref a0_now, .ref a0_images, .ref a0_merges, .ref a0_cut, .ref a0_index, .ref a0_otherIndex, .ref a0_readWords, .ref a0_triedPattern, .ref a0_alike])), (a0_cut, .inr (0, [.ref a0_cut_signs, .ref a0_cut_starts, .ref a0_cut_lengths, .ref a0_cut_piecesOfRuns, .ref a0_cut_heads, .int v0_cut_size, .int v0_cut_runs, .int v0_cut_pieces, .int v0_cut_inRun])), (a0_cut_lengths, .inl (D.2 1, 13, .inl g0_cut_lengths)), (a0_cut_heads, .inl (D.2 2, 13, .inr (.inl g0_cut_heads))), (a0_index, .inr (2, [.ref a0_index_turns])), (a0_index_turns, .inr (5, [.ref a0_index_turns_rows, .int v0_index_turns_size])), (a0_index_turns_rows, .inl (D.2 2, 320, .inr (.inl g0_index_turns_rows)))] s.heap.size = A at hD ⊢
  have hA : ∀ q : Nat, s.heap.size ≤ q → A q := fun q h => by rw [← hAe]; exact Or.inr h
  have l30 := zat hts 1 (w := .fieldLink RX11 30 "TurnedWords" "cut" "LTurnedWords$Cut;") rfl
  have hwX11 : ∀ w ∈ u_ws RX11 TX11 9, w ∈ wsX11_sharedWords := fun w h => List.mem_cons_of_mem _ (List.mem_append_left _ (List.mem_append_left _ (List.mem_append_left _ (List.mem_append_right _ h))))
  have hl := lv_entry ([.ref a0]) (n := 4) (Nat.le_of_ble_eq_true rfl)
  rw [lg_entry_eq]
  generalize (lg_sl ([.ref a0]) ++ List.replicate (4 - (lg_sl ([.ref a0])).length) Slot.unset).toArray = ls at hl ⊢
  have hl : lv_has ls 4 [(0, .ref a0)] := hl
  refine zStart (A := A) hP (fun Q0 H locs hQ hP hS => ?_)
  have k8 : ∀ K : Nat, ∀ (x1 : Int64) (x3 : Int32) (H : Heap) (locs : List Loc) (ls : Array Slot), fX11_sharedWords_8 N v0_cut_runs g0_cut_lengths g0_cut_heads v0_index_turns_size g0_index_turns_rows K x1 x3 = some res → va_P D.1 vwCl [(a0, .inr (8, [.ref a0_now, .ref a0_images, .ref a0_merges, .ref a0_cut, .ref a0_index, .ref a0_otherIndex, .ref a0_readWords, .ref a0_triedPattern, .ref a0_alike])), (a0_cut, .inr (0, [.ref a0_cut_signs, .ref a0_cut_starts, .ref a0_cut_lengths, .ref a0_cut_piecesOfRuns, .ref a0_cut_heads, .int v0_cut_size, .int v0_cut_runs, .int v0_cut_pieces, .int v0_cut_inRun])), (a0_cut_lengths, .inl (D.2 1, 13, .inl g0_cut_lengths)), (a0_cut_heads, .inl (D.2 2, 13, .inr (.inl g0_cut_heads))), (a0_index, .inr (2, [.ref a0_index_turns])), (a0_index_turns, .inr (5, [.ref a0_index_turns_rows, .int v0_index_turns_size])), (a0_index_turns_rows, .inl (D.2 2, 320, .inr (.inl g0_index_turns_rows)))] H → va_D A [(a0, .inr (8, [.ref a0_now, .ref a0_images, .ref a0_merges, .ref a0_cut, .ref a0_index, .ref a0_otherIndex, .ref a0_readWords, .ref a0_triedPattern, .ref a0_alike])), (a0_cut, .inr (0, [.ref a0_cut_signs, .ref a0_cut_starts, .ref a0_cut_lengths, .ref a0_cut_piecesOfRuns, .ref a0_cut_heads, .int v0_cut_size, .int v0_cut_runs, .int v0_cut_pieces, .int v0_cut_inRun])), (a0_cut_lengths, .inl (D.2 1, 13, .inl g0_cut_lengths)), (a0_cut_heads, .inl (D.2 2, 13, .inr (.inl g0_cut_heads))), (a0_index, .inr (2, [.ref a0_index_turns])), (a0_index_turns, .inr (5, [.ref a0_index_turns_rows, .int v0_index_turns_size])), (a0_index_turns_rows, .inl (D.2 2, 320, .inr (.inl g0_index_turns_rows)))] → va_S A s.heap H locs → lv_has ls 4 [(0, .ref a0), (1, .long x1), (3, .int x3)] → W p l e (headSpec wsX11_sharedWords ({ frames := 5, cells := 0, slots := 0, locals := 118 } : Room)).room s m ([.ref a0] : List Value).toArray below meth c H locs 0 0 Q0 (F0 m 8 ls []) := by
    intro K
    induction K with
    | zero =>
      intro x1 x3 H locs ls hf
      rw [fX11_sharedWords_8] at hf
      cases hf
    | succ K ih =>
      intro x1 x3 H locs ls hf hP hD hS hl
      rw [fX11_sharedWords_8] at hf
      refine lv_iload_n hx hb dX11_sharedWords_8 rfl (lv_at hl 2 rfl) ?_
      refine lv_aload_n hx hb dX11_sharedWords_9 rfl (lv_at hl 0 rfl) ?_
      refine va_get (D := D.1) (ci := 8) (v := .ref a0_cut) (C := RX11) (T := TX11) (N := 9) hx hb hts hwX11 hown hK.1 hP 0 rfl rfl 3 (by decide) l30 (fun _ h9 => h9) rfl dX11_sharedWords_10 ?_
      obtain ⟨r2, hr2, hf⟩ := bd hf
      refine zVi (As := []) (rest := [.int x3]) (ci := 0) (q0 := 0) (wn := [(a0, .inr (8, [.ref a0_now, .ref a0_images, .ref a0_merges, .ref a0_cut, .ref a0_index, .ref a0_otherIndex, .ref a0_readWords, .ref a0_triedPattern, .ref a0_alike])), (a0_cut, .inr (0, [.ref a0_cut_signs, .ref a0_cut_starts, .ref a0_cut_lengths, .ref a0_cut_piecesOfRuns, .ref a0_cut_heads, .int v0_cut_size, .int v0_cut_runs, .int v0_cut_pieces, .int v0_cut_inRun])), (a0_cut_lengths, .inl (D.2 1, 13, .inl g0_cut_lengths)), (a0_cut_heads, .inl (D.2 2, 13, .inr (.inl g0_cut_heads))), (a0_index, .inr (2, [.ref a0_index_turns])), (a0_index_turns, .inr (5, [.ref a0_index_turns_rows, .int v0_index_turns_size])), (a0_index_turns_rows, .inl (D.2 2, 320, .inr (.inl g0_index_turns_rows)))]) ⟨hx, hb, hml, hown, hts⟩ (mX1_runs l D a0_cut a0_cut_signs a0_cut_starts a0_cut_lengths a0_cut_piecesOfRuns a0_cut_heads H.size v0_cut_size v0_cut_runs v0_cut_pieces v0_cut_inRun r2 hr2) (cwV 0 hts gX11_sharedWords_X1_runs rfl rfl rfl (by decide +kernel) ⟨Nat.le_of_ble_eq_true rfl, Nat.le_of_ble_eq_true rfl⟩) hK hP hD hS hA [1] [0, 2, 3, 4, 5, 6] [0, 6, 1, 2, 3, 4, 5] rfl (by decide) rfl (by decide) (by decide) rfl (by decide) rfl rfl rfl hl.1 rfl (Nat.le_of_ble_eq_true rfl) dX11_sharedWords_13 ⟨Nat.zero_le _, Nat.zero_le _⟩ (fun H locs hP hD hS => ?_)
      refine lv_icmp_ge (tgt := 33) hx hb dX11_sharedWords_16 (by decide) (fun c_3 => ?_) (fun c_3 => ?_)
      · replace hf := ip c_3 hf
        refine lv_lload_n hx hb dX11_sharedWords_33 rfl (lv_at hl 1 rfl) ?_
        have he := Option.some.inj hf
        rw [hQ]
        exact W.lret (v := x1) hx hb hr (fun t ht hW => by rw [← he]; exact ⟨⟨x1, (), rfl, rfl, by rw [ht]; exact hP, hD⟩, hS.F ht⟩) hS.2.2 dX11_sharedWords_34
      · replace hf := im c_3 hf
        refine lv_lload_n hx hb dX11_sharedWords_19 rfl (lv_at hl 1 rfl) ?_
        refine lv_aload_n hx hb dX11_sharedWords_20 rfl (lv_at hl 0 rfl) ?_
        refine lv_iload_n hx hb dX11_sharedWords_21 rfl (lv_at hl 2 rfl) ?_
        obtain ⟨r4, hr4, hf⟩ := bd hf
        refine zVl (As := [.int x3]) (rest := [.long x1]) (ci := 8) (q0 := 0) (wn := [(a0, .inr (8, [.ref a0_now, .ref a0_images, .ref a0_merges, .ref a0_cut, .ref a0_index, .ref a0_otherIndex, .ref a0_readWords, .ref a0_triedPattern, .ref a0_alike])), (a0_cut, .inr (0, [.ref a0_cut_signs, .ref a0_cut_starts, .ref a0_cut_lengths, .ref a0_cut_piecesOfRuns, .ref a0_cut_heads, .int v0_cut_size, .int v0_cut_runs, .int v0_cut_pieces, .int v0_cut_inRun])), (a0_cut_lengths, .inl (D.2 1, 13, .inl g0_cut_lengths)), (a0_cut_heads, .inl (D.2 2, 13, .inr (.inl g0_cut_heads))), (a0_index, .inr (2, [.ref a0_index_turns])), (a0_index_turns, .inr (5, [.ref a0_index_turns_rows, .int v0_index_turns_size])), (a0_index_turns_rows, .inl (D.2 2, 320, .inr (.inl g0_index_turns_rows)))]) ⟨hx, hb, hml, hown, hts⟩ (mX11_wordsOfRun l D a0 a0_now a0_images a0_merges a0_cut a0_index a0_otherIndex a0_readWords a0_triedPattern a0_alike a0_cut_signs a0_cut_starts a0_cut_lengths a0_cut_piecesOfRuns a0_cut_heads a0_index_turns a0_index_turns_rows H.size v0_cut_size v0_cut_runs v0_cut_pieces v0_cut_inRun g0_cut_lengths g0_cut_heads v0_index_turns_size g0_index_turns_rows x3 N r4 hr4) (cwV 1 hts gX11_sharedWords_X11_wordsOfRun rfl rfl rfl (by decide +kernel) ⟨Nat.le_of_ble_eq_true rfl, Nat.le_of_ble_eq_true rfl⟩) hK hP hD hS hA [0, 1, 2, 3, 4, 5, 6] [] [0, 1, 2, 3, 4, 5, 6] rfl (by decide) rfl (by decide) (by decide) rfl (by decide) rfl rfl rfl hl.1 rfl (Nat.le_of_ble_eq_true rfl) dX11_sharedWords_22 ⟨Nat.zero_le _, Nat.zero_le _⟩ (fun H locs hP hD hS => ?_)
        refine lv_land hx hb dX11_sharedWords_25 ?_
        refine lv_lstore_n (lv' := [(1, .long (x1 &&& r4)), (0, .ref a0), (3, .int x3)]) hx hb dX11_sharedWords_26 rfl hl (by decide) rfl (fun ls hl => ?_)
        refine lv_iinc (v := (x3 + (1 : Int32))) (lv' := [(3, .int (x3 + (1 : Int32))), (1, .long (x1 &&& r4)), (0, .ref a0)]) hx hb dX11_sharedWords_27 hl (k := 2) rfl rfl (by decide) rfl (fun ls hl => ?_)
        refine lv_goto (tgt := 8) hx hb dX11_sharedWords_30 (by decide) ?_
        exact ih (x1 &&& r4) (x3 + (1 : Int32)) H locs ls hf hP hD hS (lv_sub hl [2, 1, 0] rfl)
  unfold fX11_sharedWords at hf
  refine lv_aload_n hx hb dX11_sharedWords_0 rfl (lv_at hl 0 rfl) ?_
  refine lv_iconst (v := 0) hx hb dX11_sharedWords_1 (by decide) ?_
  obtain ⟨r1, hr1, hf⟩ := bd hf
  refine zVl (As := [.int (0 : Int32)]) (rest := []) (ci := 8) (q0 := 0) (wn := [(a0, .inr (8, [.ref a0_now, .ref a0_images, .ref a0_merges, .ref a0_cut, .ref a0_index, .ref a0_otherIndex, .ref a0_readWords, .ref a0_triedPattern, .ref a0_alike])), (a0_cut, .inr (0, [.ref a0_cut_signs, .ref a0_cut_starts, .ref a0_cut_lengths, .ref a0_cut_piecesOfRuns, .ref a0_cut_heads, .int v0_cut_size, .int v0_cut_runs, .int v0_cut_pieces, .int v0_cut_inRun])), (a0_cut_lengths, .inl (D.2 1, 13, .inl g0_cut_lengths)), (a0_cut_heads, .inl (D.2 2, 13, .inr (.inl g0_cut_heads))), (a0_index, .inr (2, [.ref a0_index_turns])), (a0_index_turns, .inr (5, [.ref a0_index_turns_rows, .int v0_index_turns_size])), (a0_index_turns_rows, .inl (D.2 2, 320, .inr (.inl g0_index_turns_rows)))]) ⟨hx, hb, hml, hown, hts⟩ (mX11_wordsOfRun l D a0 a0_now a0_images a0_merges a0_cut a0_index a0_otherIndex a0_readWords a0_triedPattern a0_alike a0_cut_signs a0_cut_starts a0_cut_lengths a0_cut_piecesOfRuns a0_cut_heads a0_index_turns a0_index_turns_rows H.size v0_cut_size v0_cut_runs v0_cut_pieces v0_cut_inRun g0_cut_lengths g0_cut_heads v0_index_turns_size g0_index_turns_rows (0 : Int32) N r1 hr1) (cwV 1 hts gX11_sharedWords_X11_wordsOfRun rfl rfl rfl (by decide +kernel) ⟨Nat.le_of_ble_eq_true rfl, Nat.le_of_ble_eq_true rfl⟩) hK hP hD hS hA [0, 1, 2, 3, 4, 5, 6] [] [0, 1, 2, 3, 4, 5, 6] rfl (by decide) rfl (by decide) (by decide) rfl (by decide) rfl rfl rfl hl.1 rfl (Nat.le_of_ble_eq_true rfl) dX11_sharedWords_2 ⟨Nat.zero_le _, Nat.zero_le _⟩ (fun H locs hP hD hS => ?_)
  refine lv_lstore_n (lv' := [(1, .long r1), (0, .ref a0)]) hx hb dX11_sharedWords_5 rfl hl (by decide) rfl (fun ls hl => ?_)
  refine lv_iconst (v := 1) hx hb dX11_sharedWords_6 (by decide) ?_
  refine lv_istore_n (lv' := [(3, .int (1 : Int32)), (1, .long r1), (0, .ref a0)]) hx hb dX11_sharedWords_7 rfl hl (by decide) rfl (fun ls hl => ?_)
  exact k8 N r1 (1 : Int32) H locs ls hf hP hD hS (lv_sub hl [2, 1, 0] rfl)
def fX11_stem_50 (N : Nat) (v0_now_dictionary_size : Int32) (g0_now_dictionary_rows : Nat → Int64) (p1 : Int64) : Nat → Int64 → Int64 → Int32 → Option (Int32)
  | 0, _, _, _ => none
  | K + 1, x4, x6, x8 =>
    Option.bind (fX8_length N x4) fun r7 =>
    if r7 ≤ x8 then
      some (x8)
    else
      Option.bind (fX8_codeAt x4 x8) fun r9 =>
      Option.bind (fX8_codeAt x6 x8) fun r10 =>
      if r9 = r10 then
        (fX11_stem_50 N v0_now_dictionary_size g0_now_dictionary_rows p1 K) x4 x6 (x8 + (1 : Int32))
      else
        some (x8)
def fX11_stem (N : Nat) (v0_now_dictionary_size : Int32) (g0_now_dictionary_rows : Nat → Int64) (p1 : Int64) : Option (Int32) :=
  Option.bind (fJ13_bitCount_95d88 p1) fun r1 =>
  if r1 = (0 : Int32) then
    some ((0 : Int32))
  else
    Option.bind (fX0_numberOf N p1 (0 : Int32)) fun r3 =>
    Option.bind (fX7_at 40 v0_now_dictionary_size g0_now_dictionary_rows r3) fun r4 =>
    Option.bind (fX0_numberOf N p1 (r1 - (1 : Int32))) fun r5 =>
    Option.bind (fX7_at 40 v0_now_dictionary_size g0_now_dictionary_rows r5) fun r6 =>
    fX11_stem_50 N v0_now_dictionary_size g0_now_dictionary_rows p1 N r4 r6 (0 : Int32)
set_option maxHeartbeats 4000000 in
set_option maxRecDepth 100000 in
theorem mX11_stem (l : Launch) (D : zG) (a0 : Nat) (a0_now : Nat) (a0_images : Nat) (a0_merges : Nat) (a0_cut : Nat) (a0_index : Nat) (a0_otherIndex : Nat) (a0_readWords : Nat) (a0_triedPattern : Nat) (a0_alike : Nat) (a0_now_tape : Nat) (a0_now_dictionary : Nat) (a0_now_coming : Nat) (a0_now_pattern : Nat) (a0_now_fault : Nat) (a0_now_dictionary_rows : Nat) (sz : Nat)  (v0_now_edits : Int32) (v0_now_dictionary_size : Int32) (g0_now_dictionary_rows : Nat → Int64) (p1 : Int64) (N : Nat) (res : Int32) (hf : fX11_stem N v0_now_dictionary_size g0_now_dictionary_rows p1 = some res) : Met l yX11_stem wsX11_stem ({ frames := 3, cells := 0, slots := 0, locals := 66 } : Room) (va_Pc [.ref a0, .long p1] (zW D sz [(a0, .inr (8, [.ref a0_now, .ref a0_images, .ref a0_merges, .ref a0_cut, .ref a0_index, .ref a0_otherIndex, .ref a0_readWords, .ref a0_triedPattern, .ref a0_alike])), (a0_now, .inr (6, [.ref a0_now_tape, .ref a0_now_dictionary, .ref a0_now_coming, .ref a0_now_pattern, .ref a0_now_fault, .int v0_now_edits])), (a0_now_dictionary, .inr (5, [.ref a0_now_dictionary_rows, .int v0_now_dictionary_size])), (a0_now_dictionary_rows, .inl (D.2 2, 40, .inr (.inl g0_now_dictionary_rows)))])) (va_Qi (fun r (_ : Unit) => r = res) (fun _ => zB D (va_A [(a0, .inr (8, [.ref a0_now, .ref a0_images, .ref a0_merges, .ref a0_cut, .ref a0_index, .ref a0_otherIndex, .ref a0_readWords, .ref a0_triedPattern, .ref a0_alike])), (a0_now, .inr (6, [.ref a0_now_tape, .ref a0_now_dictionary, .ref a0_now_coming, .ref a0_now_pattern, .ref a0_now_fault, .int v0_now_edits])), (a0_now_dictionary, .inr (5, [.ref a0_now_dictionary_rows, .int v0_now_dictionary_size])), (a0_now_dictionary_rows, .inl (D.2 2, 40, .inr (.inl g0_now_dictionary_rows)))] sz) [(a0, .inr (8, [.ref a0_now, .ref a0_images, .ref a0_merges, .ref a0_cut, .ref a0_index, .ref a0_otherIndex, .ref a0_readWords, .ref a0_triedPattern, .ref a0_alike])), (a0_now, .inr (6, [.ref a0_now_tape, .ref a0_now_dictionary, .ref a0_now_coming, .ref a0_now_pattern, .ref a0_now_fault, .int v0_now_edits])), (a0_now_dictionary, .inr (5, [.ref a0_now_dictionary_rows, .int v0_now_dictionary_size])), (a0_now_dictionary_rows, .inl (D.2 2, 40, .inr (.inl g0_now_dictionary_rows)))]) (va_A [(a0, .inr (8, [.ref a0_now, .ref a0_images, .ref a0_merges, .ref a0_cut, .ref a0_index, .ref a0_otherIndex, .ref a0_readWords, .ref a0_triedPattern, .ref a0_alike])), (a0_now, .inr (6, [.ref a0_now_tape, .ref a0_now_dictionary, .ref a0_now_coming, .ref a0_now_pattern, .ref a0_now_fault, .int v0_now_edits])), (a0_now_dictionary, .inr (5, [.ref a0_now_dictionary_rows, .int v0_now_dictionary_size])), (a0_now_dictionary_rows, .inl (D.2 2, 40, .inr (.inl g0_now_dictionary_rows)))] sz)) 0 0 (va_A [(a0, .inr (8, [.ref a0_now, .ref a0_images, .ref a0_merges, .ref a0_cut, .ref a0_index, .ref a0_otherIndex, .ref a0_readWords, .ref a0_triedPattern, .ref a0_alike])), (a0_now, .inr (6, [.ref a0_now_tape, .ref a0_now_dictionary, .ref a0_now_coming, .ref a0_now_pattern, .ref a0_now_fault, .int v0_now_edits])), (a0_now_dictionary, .inr (5, [.ref a0_now_dictionary_rows, .int v0_now_dictionary_size])), (a0_now_dictionary_rows, .inl (D.2 2, 40, .inr (.inl g0_now_dictionary_rows)))] sz) := by
  refine Met.ofW (cc := cX11_stem) (maxL := 9) (ret := (some .int)) (by decide) rfl ?_
  intro p e s m args below meth c s₁ B hml hv
  obtain ⟨rfl, hsz, hP, hK, hD0⟩ := hv
  have hx := B.exec
  have hb := B.bytes
  have hr := B.returns
  have hts := atoms_spec (ws := wsX11_stem) B.pre
  have hown : s.vm.findClass RX11 = some m.cls := findClass_of_methodNamed B.named
  have hlocks := B.notSynchronized
  subst hsz
  have hD := hD0.self (sz := s.heap.size)
  generalize hAe : va_A [(a0, .inr (8, [.ref a0_now, .ref a0_images, .ref a0_merges, .ref a0_cut, .ref a0_index, .ref a0_otherIndex, .ref a0_readWords, .ref a0_triedPattern, .ref a0_alike])), (a0_now, .inr (6, [.ref a0_now_tape, .ref a0_now_dictionary, .ref a0_now_coming, .ref a0_now_pattern, .ref a0_now_fault, .int v0_now_edits])), (a0_now_dictionary, .inr (5, [.ref a0_now_dictionary_rows, .int v0_now_dictionary_size])), (a0_now_dictionary_rows, .inl (D.2 2, 40, .inr (.inl g0_now_dictionary_rows)))] s.heap.size = A at hD ⊢
  have hA : ∀ q : Nat, s.heap.size ≤ q → A q := fun q h => by rw [← hAe]; exact Or.inr h
  have l12 := zat hts 1 (w := .fieldLink RX11 12 "TurnedWords" "now" "LTurnedWords$State;") rfl
  have l112 := zat hts 2 (w := .fieldLink RX11 112 "TurnedWords$State" "dictionary" "LTurnedWords$Rising;") rfl
  have hwX11 : ∀ w ∈ u_ws RX11 TX11 9, w ∈ wsX11_stem := fun w h => List.mem_cons_of_mem _ (List.mem_append_left _ (List.mem_append_left _ (List.mem_append_right _ h)))
  have hwX9 : ∀ w ∈ u_ws RX9 TX9 6, w ∈ wsX11_stem := fun w h => List.mem_cons_of_mem _ (List.mem_append_left _ (List.mem_append_right _ h))
  have hl := lv_entry ([.ref a0, .long p1]) (n := 9) (Nat.le_of_ble_eq_true rfl)
  rw [lg_entry_eq]
  generalize (lg_sl ([.ref a0, .long p1]) ++ List.replicate (9 - (lg_sl ([.ref a0, .long p1])).length) Slot.unset).toArray = ls at hl ⊢
  have hl : lv_has ls 9 [(0, .ref a0), (1, .long p1)] := hl
  refine zStart (A := A) hP (fun Q0 H locs hQ hP hS => ?_)
  have k50 : ∀ K : Nat, ∀ (x4 : Int64) (x6 : Int64) (x8 : Int32) (H : Heap) (locs : List Loc) (ls : Array Slot), fX11_stem_50 N v0_now_dictionary_size g0_now_dictionary_rows p1 K x4 x6 x8 = some res → va_P D.1 vwCl [(a0, .inr (8, [.ref a0_now, .ref a0_images, .ref a0_merges, .ref a0_cut, .ref a0_index, .ref a0_otherIndex, .ref a0_readWords, .ref a0_triedPattern, .ref a0_alike])), (a0_now, .inr (6, [.ref a0_now_tape, .ref a0_now_dictionary, .ref a0_now_coming, .ref a0_now_pattern, .ref a0_now_fault, .int v0_now_edits])), (a0_now_dictionary, .inr (5, [.ref a0_now_dictionary_rows, .int v0_now_dictionary_size])), (a0_now_dictionary_rows, .inl (D.2 2, 40, .inr (.inl g0_now_dictionary_rows)))] H → va_D A [(a0, .inr (8, [.ref a0_now, .ref a0_images, .ref a0_merges, .ref a0_cut, .ref a0_index, .ref a0_otherIndex, .ref a0_readWords, .ref a0_triedPattern, .ref a0_alike])), (a0_now, .inr (6, [.ref a0_now_tape, .ref a0_now_dictionary, .ref a0_now_coming, .ref a0_now_pattern, .ref a0_now_fault, .int v0_now_edits])), (a0_now_dictionary, .inr (5, [.ref a0_now_dictionary_rows, .int v0_now_dictionary_size])), (a0_now_dictionary_rows, .inl (D.2 2, 40, .inr (.inl g0_now_dictionary_rows)))] → va_S A s.heap H locs → lv_has ls 9 [(4, .long x4), (6, .long x6), (8, .int x8)] → W p l e (headSpec wsX11_stem ({ frames := 3, cells := 0, slots := 0, locals := 66 } : Room)).room s m ([.ref a0, .long p1] : List Value).toArray below meth c H locs 0 0 Q0 (F0 m 50 ls []) := by
    intro K
    induction K with
    | zero =>
      intro x4 x6 x8 H locs ls hf
      rw [fX11_stem_50] at hf
      cases hf
    | succ K ih =>
      intro x4 x6 x8 H locs ls hf hP hD hS hl
      rw [fX11_stem_50] at hf
      refine lv_iload hx hb dX11_stem_50 (lv_at hl 2 rfl) ?_
      refine lv_lload hx hb dX11_stem_52 (lv_at hl 0 rfl) ?_
      obtain ⟨r7, hr7, hf⟩ := bd hf
      refine zSi (As := [.long x4]) (rest := [.int x8]) (wn := [(a0, .inr (8, [.ref a0_now, .ref a0_images, .ref a0_merges, .ref a0_cut, .ref a0_index, .ref a0_otherIndex, .ref a0_readWords, .ref a0_triedPattern, .ref a0_alike])), (a0_now, .inr (6, [.ref a0_now_tape, .ref a0_now_dictionary, .ref a0_now_coming, .ref a0_now_pattern, .ref a0_now_fault, .int v0_now_edits])), (a0_now_dictionary, .inr (5, [.ref a0_now_dictionary_rows, .int v0_now_dictionary_size])), (a0_now_dictionary_rows, .inl (D.2 2, 40, .inr (.inl g0_now_dictionary_rows)))]) ⟨hx, hb, hml, hown, hts⟩ (mX8_length l D H.size x4 N r7 hr7) (va_cwS 1 hts gX11_stem_X8_length rfl rfl rfl (by decide +kernel) ⟨Nat.le_of_ble_eq_true rfl, Nat.le_of_ble_eq_true rfl⟩) hK hP hD hS hA [] [0, 1, 2, 3] [0, 1, 2, 3] rfl (by decide) rfl (by decide) (by decide) rfl (by decide) rfl hl.1 rfl (Nat.le_of_ble_eq_true rfl) dX11_stem_54 ⟨Nat.zero_le _, Nat.zero_le _⟩ (fun H locs hP hD hS => ?_)
      refine lv_icmp_ge (tgt := 83) hx hb dX11_stem_57 (by decide) (fun c_8 => ?_) (fun c_8 => ?_)
      · replace hf := ip c_8 hf
        refine lv_iload hx hb dX11_stem_83 (lv_at hl 2 rfl) ?_
        have he := Option.some.inj hf
        rw [hQ]
        exact W.iret (v := x8) hx hb hr (fun t ht hW => by rw [← he]; exact ⟨⟨x8, (), rfl, rfl, by rw [ht]; exact hP, hD⟩, hS.F ht⟩) hS.2.2 dX11_stem_85
      · replace hf := im c_8 hf
        refine lv_lload hx hb dX11_stem_60 (lv_at hl 0 rfl) ?_
        refine lv_iload hx hb dX11_stem_62 (lv_at hl 2 rfl) ?_
        obtain ⟨r9, hr9, hf⟩ := bd hf
        refine zSi (As := [.long x4, .int x8]) (rest := []) (wn := [(a0, .inr (8, [.ref a0_now, .ref a0_images, .ref a0_merges, .ref a0_cut, .ref a0_index, .ref a0_otherIndex, .ref a0_readWords, .ref a0_triedPattern, .ref a0_alike])), (a0_now, .inr (6, [.ref a0_now_tape, .ref a0_now_dictionary, .ref a0_now_coming, .ref a0_now_pattern, .ref a0_now_fault, .int v0_now_edits])), (a0_now_dictionary, .inr (5, [.ref a0_now_dictionary_rows, .int v0_now_dictionary_size])), (a0_now_dictionary_rows, .inl (D.2 2, 40, .inr (.inl g0_now_dictionary_rows)))]) ⟨hx, hb, hml, hown, hts⟩ (mX8_codeAt l D H.size x4 x8 r9 hr9) (va_cwS 2 hts gX11_stem_X8_codeAt rfl rfl rfl (by decide +kernel) ⟨Nat.le_of_ble_eq_true rfl, Nat.le_of_ble_eq_true rfl⟩) hK hP hD hS hA [] [0, 1, 2, 3] [0, 1, 2, 3] rfl (by decide) rfl (by decide) (by decide) rfl (by decide) rfl hl.1 rfl (Nat.le_of_ble_eq_true rfl) dX11_stem_64 ⟨Nat.zero_le _, Nat.zero_le _⟩ (fun H locs hP hD hS => ?_)
        refine lv_lload hx hb dX11_stem_67 (lv_at hl 1 rfl) ?_
        refine lv_iload hx hb dX11_stem_69 (lv_at hl 2 rfl) ?_
        obtain ⟨r10, hr10, hf⟩ := bd hf
        refine zSi (As := [.long x6, .int x8]) (rest := [.int r9]) (wn := [(a0, .inr (8, [.ref a0_now, .ref a0_images, .ref a0_merges, .ref a0_cut, .ref a0_index, .ref a0_otherIndex, .ref a0_readWords, .ref a0_triedPattern, .ref a0_alike])), (a0_now, .inr (6, [.ref a0_now_tape, .ref a0_now_dictionary, .ref a0_now_coming, .ref a0_now_pattern, .ref a0_now_fault, .int v0_now_edits])), (a0_now_dictionary, .inr (5, [.ref a0_now_dictionary_rows, .int v0_now_dictionary_size])), (a0_now_dictionary_rows, .inl (D.2 2, 40, .inr (.inl g0_now_dictionary_rows)))]) ⟨hx, hb, hml, hown, hts⟩ (mX8_codeAt l D H.size x6 x8 r10 hr10) (va_cwS 2 hts gX11_stem_X8_codeAt rfl rfl rfl (by decide +kernel) ⟨Nat.le_of_ble_eq_true rfl, Nat.le_of_ble_eq_true rfl⟩) hK hP hD hS hA [] [0, 1, 2, 3] [0, 1, 2, 3] rfl (by decide) rfl (by decide) (by decide) rfl (by decide) rfl hl.1 rfl (Nat.le_of_ble_eq_true rfl) dX11_stem_71 ⟨Nat.zero_le _, Nat.zero_le _⟩ (fun H locs hP hD hS => ?_)
        refine lv_icmp_ne (tgt := 83) hx hb dX11_stem_74 (by decide) (fun c_11 => ?_) (fun c_11 => ?_)
        · replace hf := im c_11 hf
          refine lv_iload hx hb dX11_stem_83 (lv_at hl 2 rfl) ?_
          have he := Option.some.inj hf
          rw [hQ]
          exact W.iret (v := x8) hx hb hr (fun t ht hW => by rw [← he]; exact ⟨⟨x8, (), rfl, rfl, by rw [ht]; exact hP, hD⟩, hS.F ht⟩) hS.2.2 dX11_stem_85
        · replace hf := ip c_11 hf
          refine lv_iinc (v := (x8 + (1 : Int32))) (lv' := [(8, .int (x8 + (1 : Int32))), (4, .long x4), (6, .long x6)]) hx hb dX11_stem_77 hl (k := 2) rfl rfl (by decide) rfl (fun ls hl => ?_)
          refine lv_goto (tgt := 50) hx hb dX11_stem_80 (by decide) ?_
          exact ih x4 x6 (x8 + (1 : Int32)) H locs ls hf hP hD hS (lv_sub hl [1, 2, 0] rfl)
  unfold fX11_stem at hf
  refine lv_lload_n hx hb dX11_stem_0 rfl (lv_at hl 1 rfl) ?_
  obtain ⟨r1, hr1, hf⟩ := bd hf
  refine zSi (As := [.long p1]) (rest := []) (wn := [(a0, .inr (8, [.ref a0_now, .ref a0_images, .ref a0_merges, .ref a0_cut, .ref a0_index, .ref a0_otherIndex, .ref a0_readWords, .ref a0_triedPattern, .ref a0_alike])), (a0_now, .inr (6, [.ref a0_now_tape, .ref a0_now_dictionary, .ref a0_now_coming, .ref a0_now_pattern, .ref a0_now_fault, .int v0_now_edits])), (a0_now_dictionary, .inr (5, [.ref a0_now_dictionary_rows, .int v0_now_dictionary_size])), (a0_now_dictionary_rows, .inl (D.2 2, 40, .inr (.inl g0_now_dictionary_rows)))]) ⟨hx, hb, hml, hown, hts⟩ (mJ13_bitCount_95d88 l D H.size p1 r1 hr1) (va_cwS 1 hts gX11_stem_J13_bitCount_95d88 rfl rfl rfl (by decide +kernel) ⟨Nat.le_of_ble_eq_true rfl, Nat.le_of_ble_eq_true rfl⟩) hK hP hD hS hA [] [0, 1, 2, 3] [0, 1, 2, 3] rfl (by decide) rfl (by decide) (by decide) rfl (by decide) rfl hl.1 rfl (Nat.le_of_ble_eq_true rfl) dX11_stem_1 ⟨Nat.zero_le _, Nat.zero_le _⟩ (fun H locs hP hD hS => ?_)
  refine lv_istore_n (lv' := [(3, .int r1), (0, .ref a0), (1, .long p1)]) hx hb dX11_stem_4 rfl hl (by decide) rfl (fun ls hl => ?_)
  refine lv_iload_n hx hb dX11_stem_5 rfl (lv_at hl 0 rfl) ?_
  refine lv_if_ne (tgt := 11) hx hb dX11_stem_6 (by decide) (fun c_2 => ?_) (fun c_2 => ?_)
  · replace hf := im c_2 hf
    refine lv_aload_n hx hb dX11_stem_11 rfl (lv_at hl 1 rfl) ?_
    refine va_get (D := D.1) (ci := 8) (v := .ref a0_now) (C := RX11) (T := TX11) (N := 9) hx hb hts hwX11 hown hK.1 hP 0 rfl rfl 0 (by decide) l12 (fun _ h9 => h9) rfl dX11_stem_12 ?_
    refine va_get (D := D.1) (ci := 6) (v := .ref a0_now_dictionary) (C := RX9) (T := TX9) (N := 6) hx hb hts hwX9 hown hK.1 hP 1 rfl rfl 1 (by decide) l112 (fun _ h9 => h9) rfl dX11_stem_15 ?_
    refine lv_lload_n hx hb dX11_stem_18 rfl (lv_at hl 2 rfl) ?_
    refine lv_iconst (v := 0) hx hb dX11_stem_19 (by decide) ?_
    obtain ⟨r3, hr3, hf⟩ := bd hf
    refine zSi (As := [.long p1, .int (0 : Int32)]) (rest := [.ref a0_now_dictionary]) (wn := [(a0, .inr (8, [.ref a0_now, .ref a0_images, .ref a0_merges, .ref a0_cut, .ref a0_index, .ref a0_otherIndex, .ref a0_readWords, .ref a0_triedPattern, .ref a0_alike])), (a0_now, .inr (6, [.ref a0_now_tape, .ref a0_now_dictionary, .ref a0_now_coming, .ref a0_now_pattern, .ref a0_now_fault, .int v0_now_edits])), (a0_now_dictionary, .inr (5, [.ref a0_now_dictionary_rows, .int v0_now_dictionary_size])), (a0_now_dictionary_rows, .inl (D.2 2, 40, .inr (.inl g0_now_dictionary_rows)))]) ⟨hx, hb, hml, hown, hts⟩ (mX0_numberOf l D H.size p1 (0 : Int32) N r3 hr3) (va_cwS 2 hts gX11_stem_X0_numberOf rfl rfl rfl (by decide +kernel) ⟨Nat.le_of_ble_eq_true rfl, Nat.le_of_ble_eq_true rfl⟩) hK hP hD hS hA [] [0, 1, 2, 3] [0, 1, 2, 3] rfl (by decide) rfl (by decide) (by decide) rfl (by decide) rfl hl.1 rfl (Nat.le_of_ble_eq_true rfl) dX11_stem_20 ⟨Nat.zero_le _, Nat.zero_le _⟩ (fun H locs hP hD hS => ?_)
    obtain ⟨r4, hr4, hf⟩ := bd hf
    refine zVl (As := [.int r3]) (rest := []) (ci := 5) (q0 := 0) (wn := [(a0, .inr (8, [.ref a0_now, .ref a0_images, .ref a0_merges, .ref a0_cut, .ref a0_index, .ref a0_otherIndex, .ref a0_readWords, .ref a0_triedPattern, .ref a0_alike])), (a0_now, .inr (6, [.ref a0_now_tape, .ref a0_now_dictionary, .ref a0_now_coming, .ref a0_now_pattern, .ref a0_now_fault, .int v0_now_edits])), (a0_now_dictionary, .inr (5, [.ref a0_now_dictionary_rows, .int v0_now_dictionary_size])), (a0_now_dictionary_rows, .inl (D.2 2, 40, .inr (.inl g0_now_dictionary_rows)))]) ⟨hx, hb, hml, hown, hts⟩ (mX7_at l D a0_now_dictionary a0_now_dictionary_rows H.size 40 v0_now_dictionary_size g0_now_dictionary_rows r3 r4 hr4) (cwV 1 hts gX11_stem_X7_at rfl rfl rfl (by decide +kernel) ⟨Nat.le_of_ble_eq_true rfl, Nat.le_of_ble_eq_true rfl⟩) hK hP hD hS hA [2, 3] [0, 1] [0, 1, 2, 3] rfl (by decide) rfl (by decide) (by decide) rfl (by decide) rfl rfl rfl hl.1 rfl (Nat.le_of_ble_eq_true rfl) dX11_stem_23 ⟨Nat.zero_le _, Nat.zero_le _⟩ (fun H locs hP hD hS => ?_)
    refine lv_lstore (lv' := [(4, .long r4), (3, .int r1), (0, .ref a0), (1, .long p1)]) hx hb dX11_stem_26 hl (by decide) rfl (fun ls hl => ?_)
    refine lv_aload_n hx hb dX11_stem_28 rfl (lv_at hl 2 rfl) ?_
    refine va_get (D := D.1) (ci := 8) (v := .ref a0_now) (C := RX11) (T := TX11) (N := 9) hx hb hts hwX11 hown hK.1 hP 0 rfl rfl 0 (by decide) l12 (fun _ h9 => h9) rfl dX11_stem_29 ?_
    refine va_get (D := D.1) (ci := 6) (v := .ref a0_now_dictionary) (C := RX9) (T := TX9) (N := 6) hx hb hts hwX9 hown hK.1 hP 1 rfl rfl 1 (by decide) l112 (fun _ h9 => h9) rfl dX11_stem_32 ?_
    refine lv_lload_n hx hb dX11_stem_35 rfl (lv_at hl 3 rfl) ?_
    refine lv_iload_n hx hb dX11_stem_36 rfl (lv_at hl 1 rfl) ?_
    refine lv_iconst (v := 1) hx hb dX11_stem_37 (by decide) ?_
    refine lv_isub hx hb dX11_stem_38 ?_
    obtain ⟨r5, hr5, hf⟩ := bd hf
    refine zSi (As := [.long p1, .int (r1 - (1 : Int32))]) (rest := [.ref a0_now_dictionary]) (wn := [(a0, .inr (8, [.ref a0_now, .ref a0_images, .ref a0_merges, .ref a0_cut, .ref a0_index, .ref a0_otherIndex, .ref a0_readWords, .ref a0_triedPattern, .ref a0_alike])), (a0_now, .inr (6, [.ref a0_now_tape, .ref a0_now_dictionary, .ref a0_now_coming, .ref a0_now_pattern, .ref a0_now_fault, .int v0_now_edits])), (a0_now_dictionary, .inr (5, [.ref a0_now_dictionary_rows, .int v0_now_dictionary_size])), (a0_now_dictionary_rows, .inl (D.2 2, 40, .inr (.inl g0_now_dictionary_rows)))]) ⟨hx, hb, hml, hown, hts⟩ (mX0_numberOf l D H.size p1 (r1 - (1 : Int32)) N r5 hr5) (va_cwS 2 hts gX11_stem_X0_numberOf rfl rfl rfl (by decide +kernel) ⟨Nat.le_of_ble_eq_true rfl, Nat.le_of_ble_eq_true rfl⟩) hK hP hD hS hA [] [0, 1, 2, 3] [0, 1, 2, 3] rfl (by decide) rfl (by decide) (by decide) rfl (by decide) rfl hl.1 rfl (Nat.le_of_ble_eq_true rfl) dX11_stem_39 ⟨Nat.zero_le _, Nat.zero_le _⟩ (fun H locs hP hD hS => ?_)
    obtain ⟨r6, hr6, hf⟩ := bd hf
    refine zVl (As := [.int r5]) (rest := []) (ci := 5) (q0 := 0) (wn := [(a0, .inr (8, [.ref a0_now, .ref a0_images, .ref a0_merges, .ref a0_cut, .ref a0_index, .ref a0_otherIndex, .ref a0_readWords, .ref a0_triedPattern, .ref a0_alike])), (a0_now, .inr (6, [.ref a0_now_tape, .ref a0_now_dictionary, .ref a0_now_coming, .ref a0_now_pattern, .ref a0_now_fault, .int v0_now_edits])), (a0_now_dictionary, .inr (5, [.ref a0_now_dictionary_rows, .int v0_now_dictionary_size])), (a0_now_dictionary_rows, .inl (D.2 2, 40, .inr (.inl g0_now_dictionary_rows)))]) ⟨hx, hb, hml, hown, hts⟩ (mX7_at l D a0_now_dictionary a0_now_dictionary_rows H.size 40 v0_now_dictionary_size g0_now_dictionary_rows r5 r6 hr6) (cwV 1 hts gX11_stem_X7_at rfl rfl rfl (by decide +kernel) ⟨Nat.le_of_ble_eq_true rfl, Nat.le_of_ble_eq_true rfl⟩) hK hP hD hS hA [2, 3] [0, 1] [0, 1, 2, 3] rfl (by decide) rfl (by decide) (by decide) rfl (by decide) rfl rfl rfl hl.1 rfl (Nat.le_of_ble_eq_true rfl) dX11_stem_42 ⟨Nat.zero_le _, Nat.zero_le _⟩ (fun H locs hP hD hS => ?_)
    refine lv_lstore (lv' := [(6, .long r6), (4, .long r4), (3, .int r1), (0, .ref a0), (1, .long p1)]) hx hb dX11_stem_45 hl (by decide) rfl (fun ls hl => ?_)
    refine lv_iconst (v := 0) hx hb dX11_stem_47 (by decide) ?_
    refine lv_istore (lv' := [(8, .int (0 : Int32)), (6, .long r6), (4, .long r4), (3, .int r1), (0, .ref a0), (1, .long p1)]) hx hb dX11_stem_48 hl (by decide) rfl (fun ls hl => ?_)
    exact k50 N r4 r6 (0 : Int32) H locs ls hf hP hD hS (lv_sub hl [2, 1, 0] rfl)
  · replace hf := ip c_2 hf
    refine lv_iconst (v := 0) hx hb dX11_stem_9 (by decide) ?_
    have he := Option.some.inj hf
    rw [hQ]
    exact W.iret (v := (0 : Int32)) hx hb hr (fun t ht hW => by rw [← he]; exact ⟨⟨(0 : Int32), (), rfl, rfl, by rw [ht]; exact hP, hD⟩, hS.F ht⟩) hS.2.2 dX11_stem_10
def fX11_mostAlike_33 (N : Nat) (v0_now_dictionary_size : Int32) (g0_now_dictionary_rows : Nat → Int64) (p1 : Int64) (p3 : Int32) : Nat → Int32 → Int32 → (Nat → Int32) → Option (Int32 × (Nat → Int32))
  | 0, _, _, _ => none
  | K + 1, x4, x5, g0_alike =>
    Option.bind (fX7_size v0_now_dictionary_size) fun r3 =>
    if r3 ≤ x5 then
      some (x4, g0_alike)
    else
      Option.bind (fX7_at 40 v0_now_dictionary_size g0_now_dictionary_rows x5) fun r5 =>
      Option.bind (fX8_codeAt r5 p3) fun r6 =>
      Option.bind (fX0_has p1 x5) fun r7 =>
      if r7 = (0 : Int32) then
        (fX11_mostAlike_33 N v0_now_dictionary_size g0_now_dictionary_rows p1 p3 K) x4 (x5 + (1 : Int32)) g0_alike
      else
        if r6 < (0 : Int32) then
          (fX11_mostAlike_33 N v0_now_dictionary_size g0_now_dictionary_rows p1 p3 K) x4 (x5 + (1 : Int32)) g0_alike
        else
          if (Int32.ofNat 32) ≤ r6 then
            (fX11_mostAlike_33 N v0_now_dictionary_size g0_now_dictionary_rows p1 p3 K) x4 (x5 + (1 : Int32)) g0_alike
          else
            if r6 < 0 ∨ 32 ≤ (r6).toNatClampNeg then none else
            if r6 < 0 ∨ 32 ≤ (r6).toNatClampNeg then none else
            if r6 < 0 ∨ 32 ≤ (r6).toNatClampNeg then none else
            (fX11_mostAlike_33 N v0_now_dictionary_size g0_now_dictionary_rows p1 p3 K) (if x4 < ((upd g0_alike (r6).toNatClampNeg ((g0_alike (r6).toNatClampNeg) + (1 : Int32))) (r6).toNatClampNeg) then ((upd g0_alike (r6).toNatClampNeg ((g0_alike (r6).toNatClampNeg) + (1 : Int32))) (r6).toNatClampNeg) else x4) (x5 + (1 : Int32)) (upd g0_alike (r6).toNatClampNeg ((g0_alike (r6).toNatClampNeg) + (1 : Int32)))
def fX11_mostAlike_3 (N : Nat) (v0_now_dictionary_size : Int32) (g0_now_dictionary_rows : Nat → Int64) (p1 : Int64) (p3 : Int32) : Nat → Int32 → (Nat → Int32) → Option (Int32 × (Nat → Int32))
  | 0, _, _ => none
  | K + 1, x4, g0_alike =>
    if (Int32.ofNat 32) ≤ x4 then
      fX11_mostAlike_33 N v0_now_dictionary_size g0_now_dictionary_rows p1 p3 N (0 : Int32) (0 : Int32) g0_alike
    else
      if x4 < 0 ∨ 32 ≤ (x4).toNatClampNeg then none else
      (fX11_mostAlike_3 N v0_now_dictionary_size g0_now_dictionary_rows p1 p3 K) (x4 + (1 : Int32)) (upd g0_alike (x4).toNatClampNeg (0 : Int32))
def fX11_mostAlike (N : Nat) (v0_now_dictionary_size : Int32) (g0_now_dictionary_rows : Nat → Int64) (g0_alike : Nat → Int32) (p1 : Int64) (p3 : Int32) : Option (Int32 × (Nat → Int32)) :=
  fX11_mostAlike_3 N v0_now_dictionary_size g0_now_dictionary_rows p1 p3 N (0 : Int32) g0_alike
set_option maxHeartbeats 4000000 in
set_option maxRecDepth 100000 in
theorem mX11_mostAlike (l : Launch) (D : zG) (a0 : Nat) (a0_now : Nat) (a0_images : Nat) (a0_merges : Nat) (a0_cut : Nat) (a0_index : Nat) (a0_otherIndex : Nat) (a0_readWords : Nat) (a0_triedPattern : Nat) (a0_alike : Nat) (a0_now_tape : Nat) (a0_now_dictionary : Nat) (a0_now_coming : Nat) (a0_now_pattern : Nat) (a0_now_fault : Nat) (a0_now_dictionary_rows : Nat) (sz : Nat)  (v0_now_edits : Int32) (v0_now_dictionary_size : Int32) (g0_now_dictionary_rows : Nat → Int64) (g0_alike : Nat → Int32) (p1 : Int64) (p3 : Int32) (N : Nat) (res : Int32 × (Nat → Int32)) (hf : fX11_mostAlike N v0_now_dictionary_size g0_now_dictionary_rows g0_alike p1 p3 = some res) : Met l yX11_mostAlike wsX11_mostAlike ({ frames := 2, cells := 0, slots := 0, locals := 42 } : Room) (va_Pc [.ref a0, .long p1, .int p3] (zW D sz [(a0, .inr (8, [.ref a0_now, .ref a0_images, .ref a0_merges, .ref a0_cut, .ref a0_index, .ref a0_otherIndex, .ref a0_readWords, .ref a0_triedPattern, .ref a0_alike])), (a0_now, .inr (6, [.ref a0_now_tape, .ref a0_now_dictionary, .ref a0_now_coming, .ref a0_now_pattern, .ref a0_now_fault, .int v0_now_edits])), (a0_now_dictionary, .inr (5, [.ref a0_now_dictionary_rows, .int v0_now_dictionary_size])), (a0_now_dictionary_rows, .inl (D.2 2, 40, .inr (.inl g0_now_dictionary_rows))), (a0_alike, .inl (D.2 1, 32, .inl g0_alike))])) (va_Qi (fun r (_ : Unit) => r = res.1) (fun _ => zB D (va_A [(a0, .inr (8, [.ref a0_now, .ref a0_images, .ref a0_merges, .ref a0_cut, .ref a0_index, .ref a0_otherIndex, .ref a0_readWords, .ref a0_triedPattern, .ref a0_alike])), (a0_now, .inr (6, [.ref a0_now_tape, .ref a0_now_dictionary, .ref a0_now_coming, .ref a0_now_pattern, .ref a0_now_fault, .int v0_now_edits])), (a0_now_dictionary, .inr (5, [.ref a0_now_dictionary_rows, .int v0_now_dictionary_size])), (a0_now_dictionary_rows, .inl (D.2 2, 40, .inr (.inl g0_now_dictionary_rows))), (a0_alike, .inl (D.2 1, 32, .inl g0_alike))] sz) [(a0, .inr (8, [.ref a0_now, .ref a0_images, .ref a0_merges, .ref a0_cut, .ref a0_index, .ref a0_otherIndex, .ref a0_readWords, .ref a0_triedPattern, .ref a0_alike])), (a0_now, .inr (6, [.ref a0_now_tape, .ref a0_now_dictionary, .ref a0_now_coming, .ref a0_now_pattern, .ref a0_now_fault, .int v0_now_edits])), (a0_now_dictionary, .inr (5, [.ref a0_now_dictionary_rows, .int v0_now_dictionary_size])), (a0_now_dictionary_rows, .inl (D.2 2, 40, .inr (.inl g0_now_dictionary_rows))), (a0_alike, .inl (D.2 1, 32, .inl res.2))]) (va_A [(a0, .inr (8, [.ref a0_now, .ref a0_images, .ref a0_merges, .ref a0_cut, .ref a0_index, .ref a0_otherIndex, .ref a0_readWords, .ref a0_triedPattern, .ref a0_alike])), (a0_now, .inr (6, [.ref a0_now_tape, .ref a0_now_dictionary, .ref a0_now_coming, .ref a0_now_pattern, .ref a0_now_fault, .int v0_now_edits])), (a0_now_dictionary, .inr (5, [.ref a0_now_dictionary_rows, .int v0_now_dictionary_size])), (a0_now_dictionary_rows, .inl (D.2 2, 40, .inr (.inl g0_now_dictionary_rows))), (a0_alike, .inl (D.2 1, 32, .inl g0_alike))] sz)) 0 0 (va_A [(a0, .inr (8, [.ref a0_now, .ref a0_images, .ref a0_merges, .ref a0_cut, .ref a0_index, .ref a0_otherIndex, .ref a0_readWords, .ref a0_triedPattern, .ref a0_alike])), (a0_now, .inr (6, [.ref a0_now_tape, .ref a0_now_dictionary, .ref a0_now_coming, .ref a0_now_pattern, .ref a0_now_fault, .int v0_now_edits])), (a0_now_dictionary, .inr (5, [.ref a0_now_dictionary_rows, .int v0_now_dictionary_size])), (a0_now_dictionary_rows, .inl (D.2 2, 40, .inr (.inl g0_now_dictionary_rows))), (a0_alike, .inl (D.2 1, 32, .inl g0_alike))] sz) := by
  refine Met.ofW (cc := cX11_mostAlike) (maxL := 7) (ret := (some .int)) (by decide) rfl ?_
  intro p e s m args below meth c s₁ B hml hv
  obtain ⟨rfl, hsz, hP, hK, hD0⟩ := hv
  have hx := B.exec
  have hb := B.bytes
  have hr := B.returns
  have hts := atoms_spec (ws := wsX11_mostAlike) B.pre
  have hown : s.vm.findClass RX11 = some m.cls := findClass_of_methodNamed B.named
  have hlocks := B.notSynchronized
  subst hsz
  have hD := hD0.self (sz := s.heap.size)
  generalize hAe : va_A [(a0, .inr (8, [.ref a0_now, .ref a0_images, .ref a0_merges, .ref a0_cut, .ref a0_index, .ref a0_otherIndex, .ref a0_readWords, .ref a0_triedPattern, .ref a0_alike])), (a0_now, .inr (6, [.ref a0_now_tape, .ref a0_now_dictionary, .ref a0_now_coming, .ref a0_now_pattern, .ref a0_now_fault, .int v0_now_edits])), (a0_now_dictionary, .inr (5, [.ref a0_now_dictionary_rows, .int v0_now_dictionary_size])), (a0_now_dictionary_rows, .inl (D.2 2, 40, .inr (.inl g0_now_dictionary_rows))), (a0_alike, .inl (D.2 1, 32, .inl g0_alike))] s.heap.size = A at hD ⊢
  have hA : ∀ q : Nat, s.heap.size ≤ q → A q := fun q h => by rw [← hAe]; exact Or.inr h
  have l69 := zat hts 1 (w := .fieldLink RX11 69 "TurnedWords" "alike" "[I") rfl
  have l12 := zat hts 2 (w := .fieldLink RX11 12 "TurnedWords" "now" "LTurnedWords$State;") rfl
  have l112 := zat hts 3 (w := .fieldLink RX11 112 "TurnedWords$State" "dictionary" "LTurnedWords$Rising;") rfl
  have l328 := zat hts 4 (w := .methodLink RX11 328 Lib.Math.max.name) rfl
  have hstmax := zat hts 5 (w := .static Lib.Math.max.name) rfl
  have hinM := zat hts 6 (w := .initialized "java/lang/Math") rfl
  have hcdmax := zat hts 7 (w := .code Lib.Math.max.name Lib.Math.max.code 2 (some .int)) rfl
  have hwX11 : ∀ w ∈ u_ws RX11 TX11 9, w ∈ wsX11_mostAlike := fun w h => List.mem_cons_of_mem _ (List.mem_append_left _ (List.mem_append_left _ (List.mem_append_right _ h)))
  have hwX9 : ∀ w ∈ u_ws RX9 TX9 6, w ∈ wsX11_mostAlike := fun w h => List.mem_cons_of_mem _ (List.mem_append_left _ (List.mem_append_right _ h))
  have hl := lv_entry ([.ref a0, .long p1, .int p3]) (n := 7) (Nat.le_of_ble_eq_true rfl)
  rw [lg_entry_eq]
  generalize (lg_sl ([.ref a0, .long p1, .int p3]) ++ List.replicate (7 - (lg_sl ([.ref a0, .long p1, .int p3])).length) Slot.unset).toArray = ls at hl ⊢
  have hl : lv_has ls 7 [(0, .ref a0), (1, .long p1), (3, .int p3)] := hl
  refine zStart (A := A) hP (fun Q0 H locs hQ hP hS => ?_)
  have k33 : ∀ K : Nat, ∀ (x4 : Int32) (x5 : Int32) (g0_alike : Nat → Int32) (H : Heap) (locs : List Loc) (ls : Array Slot), fX11_mostAlike_33 N v0_now_dictionary_size g0_now_dictionary_rows p1 p3 K x4 x5 g0_alike = some res → va_P D.1 vwCl [(a0, .inr (8, [.ref a0_now, .ref a0_images, .ref a0_merges, .ref a0_cut, .ref a0_index, .ref a0_otherIndex, .ref a0_readWords, .ref a0_triedPattern, .ref a0_alike])), (a0_now, .inr (6, [.ref a0_now_tape, .ref a0_now_dictionary, .ref a0_now_coming, .ref a0_now_pattern, .ref a0_now_fault, .int v0_now_edits])), (a0_now_dictionary, .inr (5, [.ref a0_now_dictionary_rows, .int v0_now_dictionary_size])), (a0_now_dictionary_rows, .inl (D.2 2, 40, .inr (.inl g0_now_dictionary_rows))), (a0_alike, .inl (D.2 1, 32, .inl g0_alike))] H → va_D A [(a0, .inr (8, [.ref a0_now, .ref a0_images, .ref a0_merges, .ref a0_cut, .ref a0_index, .ref a0_otherIndex, .ref a0_readWords, .ref a0_triedPattern, .ref a0_alike])), (a0_now, .inr (6, [.ref a0_now_tape, .ref a0_now_dictionary, .ref a0_now_coming, .ref a0_now_pattern, .ref a0_now_fault, .int v0_now_edits])), (a0_now_dictionary, .inr (5, [.ref a0_now_dictionary_rows, .int v0_now_dictionary_size])), (a0_now_dictionary_rows, .inl (D.2 2, 40, .inr (.inl g0_now_dictionary_rows))), (a0_alike, .inl (D.2 1, 32, .inl g0_alike))] → va_S A s.heap H locs → lv_has ls 7 [(0, .ref a0), (1, .long p1), (3, .int p3), (4, .int x4), (5, .int x5)] → W p l e (headSpec wsX11_mostAlike ({ frames := 2, cells := 0, slots := 0, locals := 42 } : Room)).room s m ([.ref a0, .long p1, .int p3] : List Value).toArray below meth c H locs 0 0 Q0 (F0 m 33 ls []) := by
    intro K
    induction K with
    | zero =>
      intro x4 x5 g0_alike H locs ls hf
      rw [fX11_mostAlike_33] at hf
      cases hf
    | succ K ih =>
      intro x4 x5 g0_alike H locs ls hf hP hD hS hl
      rw [fX11_mostAlike_33] at hf
      refine lv_iload hx hb dX11_mostAlike_33 (lv_at hl 4 rfl) ?_
      refine lv_aload_n hx hb dX11_mostAlike_35 rfl (lv_at hl 0 rfl) ?_
      refine va_get (D := D.1) (ci := 8) (v := .ref a0_now) (C := RX11) (T := TX11) (N := 9) hx hb hts hwX11 hown hK.1 hP 0 rfl rfl 0 (by decide) l12 (fun _ h9 => h9) rfl dX11_mostAlike_36 ?_
      refine va_get (D := D.1) (ci := 6) (v := .ref a0_now_dictionary) (C := RX9) (T := TX9) (N := 6) hx hb hts hwX9 hown hK.1 hP 1 rfl rfl 1 (by decide) l112 (fun _ h9 => h9) rfl dX11_mostAlike_39 ?_
      obtain ⟨r3, hr3, hf⟩ := bd hf
      refine zVi (As := []) (rest := [.int x5]) (ci := 5) (q0 := 0) (wn := [(a0, .inr (8, [.ref a0_now, .ref a0_images, .ref a0_merges, .ref a0_cut, .ref a0_index, .ref a0_otherIndex, .ref a0_readWords, .ref a0_triedPattern, .ref a0_alike])), (a0_now, .inr (6, [.ref a0_now_tape, .ref a0_now_dictionary, .ref a0_now_coming, .ref a0_now_pattern, .ref a0_now_fault, .int v0_now_edits])), (a0_now_dictionary, .inr (5, [.ref a0_now_dictionary_rows, .int v0_now_dictionary_size])), (a0_now_dictionary_rows, .inl (D.2 2, 40, .inr (.inl g0_now_dictionary_rows))), (a0_alike, .inl (D.2 1, 32, .inl g0_alike))]) ⟨hx, hb, hml, hown, hts⟩ (mX7_size l D a0_now_dictionary a0_now_dictionary_rows H.size v0_now_dictionary_size r3 hr3) (cwV 0 hts gX11_mostAlike_X7_size rfl rfl rfl (by decide +kernel) ⟨Nat.le_of_ble_eq_true rfl, Nat.le_of_ble_eq_true rfl⟩) hK hP hD hS hA [2] [0, 1, 3, 4] [0, 1, 4, 2, 3] rfl (by decide) rfl (by decide) (by decide) rfl (by decide) rfl rfl rfl hl.1 rfl (Nat.le_of_ble_eq_true rfl) dX11_mostAlike_42 ⟨Nat.zero_le _, Nat.zero_le _⟩ (fun H locs hP hD hS => ?_)
      refine lv_icmp_ge (tgt := 121) hx hb dX11_mostAlike_45 (by decide) (fun c_4 => ?_) (fun c_4 => ?_)
      · replace hf := ip c_4 hf
        refine lv_iload hx hb dX11_mostAlike_121 (lv_at hl 3 rfl) ?_
        have he := Option.some.inj hf
        rw [hQ]
        exact W.iret (v := x4) hx hb hr (fun t ht hW => by rw [← he]; exact ⟨⟨x4, (), rfl, rfl, by rw [ht]; exact hP, hD⟩, hS.F ht⟩) hS.2.2 dX11_mostAlike_123
      · replace hf := im c_4 hf
        refine lv_aload_n hx hb dX11_mostAlike_48 rfl (lv_at hl 0 rfl) ?_
        refine va_get (D := D.1) (ci := 8) (v := .ref a0_now) (C := RX11) (T := TX11) (N := 9) hx hb hts hwX11 hown hK.1 hP 0 rfl rfl 0 (by decide) l12 (fun _ h9 => h9) rfl dX11_mostAlike_49 ?_
        refine va_get (D := D.1) (ci := 6) (v := .ref a0_now_dictionary) (C := RX9) (T := TX9) (N := 6) hx hb hts hwX9 hown hK.1 hP 1 rfl rfl 1 (by decide) l112 (fun _ h9 => h9) rfl dX11_mostAlike_52 ?_
        refine lv_iload hx hb dX11_mostAlike_55 (lv_at hl 4 rfl) ?_
        obtain ⟨r5, hr5, hf⟩ := bd hf
        refine zVl (As := [.int x5]) (rest := []) (ci := 5) (q0 := 0) (wn := [(a0, .inr (8, [.ref a0_now, .ref a0_images, .ref a0_merges, .ref a0_cut, .ref a0_index, .ref a0_otherIndex, .ref a0_readWords, .ref a0_triedPattern, .ref a0_alike])), (a0_now, .inr (6, [.ref a0_now_tape, .ref a0_now_dictionary, .ref a0_now_coming, .ref a0_now_pattern, .ref a0_now_fault, .int v0_now_edits])), (a0_now_dictionary, .inr (5, [.ref a0_now_dictionary_rows, .int v0_now_dictionary_size])), (a0_now_dictionary_rows, .inl (D.2 2, 40, .inr (.inl g0_now_dictionary_rows))), (a0_alike, .inl (D.2 1, 32, .inl g0_alike))]) ⟨hx, hb, hml, hown, hts⟩ (mX7_at l D a0_now_dictionary a0_now_dictionary_rows H.size 40 v0_now_dictionary_size g0_now_dictionary_rows x5 r5 hr5) (cwV 1 hts gX11_mostAlike_X7_at rfl rfl rfl (by decide +kernel) ⟨Nat.le_of_ble_eq_true rfl, Nat.le_of_ble_eq_true rfl⟩) hK hP hD hS hA [2, 3] [0, 1, 4] [0, 1, 3, 4, 2] rfl (by decide) rfl (by decide) (by decide) rfl (by decide) rfl rfl rfl hl.1 rfl (Nat.le_of_ble_eq_true rfl) dX11_mostAlike_57 ⟨Nat.zero_le _, Nat.zero_le _⟩ (fun H locs hP hD hS => ?_)
        refine lv_iload_n hx hb dX11_mostAlike_60 rfl (lv_at hl 2 rfl) ?_
        obtain ⟨r6, hr6, hf⟩ := bd hf
        refine zSi (As := [.long r5, .int p3]) (rest := []) (wn := [(a0, .inr (8, [.ref a0_now, .ref a0_images, .ref a0_merges, .ref a0_cut, .ref a0_index, .ref a0_otherIndex, .ref a0_readWords, .ref a0_triedPattern, .ref a0_alike])), (a0_now, .inr (6, [.ref a0_now_tape, .ref a0_now_dictionary, .ref a0_now_coming, .ref a0_now_pattern, .ref a0_now_fault, .int v0_now_edits])), (a0_now_dictionary, .inr (5, [.ref a0_now_dictionary_rows, .int v0_now_dictionary_size])), (a0_now_dictionary_rows, .inl (D.2 2, 40, .inr (.inl g0_now_dictionary_rows))), (a0_alike, .inl (D.2 1, 32, .inl g0_alike))]) ⟨hx, hb, hml, hown, hts⟩ (mX8_codeAt l D H.size r5 p3 r6 hr6) (va_cwS 2 hts gX11_mostAlike_X8_codeAt rfl rfl rfl (by decide +kernel) ⟨Nat.le_of_ble_eq_true rfl, Nat.le_of_ble_eq_true rfl⟩) hK hP hD hS hA [] [0, 1, 2, 3, 4] [0, 1, 2, 3, 4] rfl (by decide) rfl (by decide) (by decide) rfl (by decide) rfl hl.1 rfl (Nat.le_of_ble_eq_true rfl) dX11_mostAlike_61 ⟨Nat.zero_le _, Nat.zero_le _⟩ (fun H locs hP hD hS => ?_)
        refine lv_istore (lv' := [(6, .int r6), (0, .ref a0), (1, .long p1), (3, .int p3), (4, .int x4), (5, .int x5)]) hx hb dX11_mostAlike_64 hl (by decide) rfl (fun ls hl => ?_)
        refine lv_lload_n hx hb dX11_mostAlike_66 rfl (lv_at hl 2 rfl) ?_
        refine lv_iload hx hb dX11_mostAlike_67 (lv_at hl 5 rfl) ?_
        obtain ⟨r7, hr7, hf⟩ := bd hf
        refine zSz (As := [.long p1, .int x5]) (rest := []) (wn := [(a0, .inr (8, [.ref a0_now, .ref a0_images, .ref a0_merges, .ref a0_cut, .ref a0_index, .ref a0_otherIndex, .ref a0_readWords, .ref a0_triedPattern, .ref a0_alike])), (a0_now, .inr (6, [.ref a0_now_tape, .ref a0_now_dictionary, .ref a0_now_coming, .ref a0_now_pattern, .ref a0_now_fault, .int v0_now_edits])), (a0_now_dictionary, .inr (5, [.ref a0_now_dictionary_rows, .int v0_now_dictionary_size])), (a0_now_dictionary_rows, .inl (D.2 2, 40, .inr (.inl g0_now_dictionary_rows))), (a0_alike, .inl (D.2 1, 32, .inl g0_alike))]) ⟨hx, hb, hml, hown, hts⟩ (mX0_has l D H.size p1 x5 r7 hr7) (va_cwS 2 hts gX11_mostAlike_X0_has rfl rfl rfl (by decide +kernel) ⟨Nat.le_of_ble_eq_true rfl, Nat.le_of_ble_eq_true rfl⟩) hK hP hD hS hA [] [0, 1, 2, 3, 4] [0, 1, 2, 3, 4] rfl (by decide) rfl (by decide) (by decide) rfl (by decide) rfl hl.1 rfl (Nat.le_of_ble_eq_true rfl) dX11_mostAlike_69 ⟨Nat.zero_le _, Nat.zero_le _⟩ (fun H locs hb_8 hP hD hS => ?_)
        refine lv_if_eq (tgt := 115) hx hb dX11_mostAlike_72 (by decide) (fun c_9 => ?_) (fun c_9 => ?_)
        · replace hf := ip c_9 hf
          refine lv_iinc (v := (x5 + (1 : Int32))) (lv' := [(5, .int (x5 + (1 : Int32))), (6, .int r6), (0, .ref a0), (1, .long p1), (3, .int p3), (4, .int x4)]) hx hb dX11_mostAlike_115 hl (k := 5) rfl rfl (by decide) rfl (fun ls hl => ?_)
          refine lv_goto (tgt := 33) hx hb dX11_mostAlike_118 (by decide) ?_
          exact ih x4 (x5 + (1 : Int32)) g0_alike H locs ls hf hP hD hS (lv_sub hl [2, 3, 4, 5, 0] rfl)
        · replace hf := im c_9 hf
          refine lv_iload hx hb dX11_mostAlike_75 (lv_at hl 0 rfl) ?_
          refine lv_if_lt (tgt := 115) hx hb dX11_mostAlike_77 (by decide) (fun c_10 => ?_) (fun c_10 => ?_)
          · replace hf := ip c_10 hf
            refine lv_iinc (v := (x5 + (1 : Int32))) (lv' := [(5, .int (x5 + (1 : Int32))), (6, .int r6), (0, .ref a0), (1, .long p1), (3, .int p3), (4, .int x4)]) hx hb dX11_mostAlike_115 hl (k := 5) rfl rfl (by decide) rfl (fun ls hl => ?_)
            refine lv_goto (tgt := 33) hx hb dX11_mostAlike_118 (by decide) ?_
            exact ih x4 (x5 + (1 : Int32)) g0_alike H locs ls hf hP hD hS (lv_sub hl [2, 3, 4, 5, 0] rfl)
          · replace hf := im c_10 hf
            refine lv_iload hx hb dX11_mostAlike_80 (lv_at hl 0 rfl) ?_
            refine lv_aload_n hx hb dX11_mostAlike_82 rfl (lv_at hl 1 rfl) ?_
            refine va_get (D := D.1) (ci := 8) (v := .ref a0_alike) (C := RX11) (T := TX11) (N := 9) hx hb hts hwX11 hown hK.1 hP 0 rfl rfl 8 (by decide) l69 (fun _ h9 => h9) rfl dX11_mostAlike_83 ?_
            refine va_alen hx hb hK.1 hP 4 1 rfl rfl (v := (Int32.ofNat 32)) rfl dX11_mostAlike_86 ?_
            refine lv_icmp_ge (tgt := 115) hx hb dX11_mostAlike_87 (by decide) (fun c_11 => ?_) (fun c_11 => ?_)
            · replace hf := ip c_11 hf
              refine lv_iinc (v := (x5 + (1 : Int32))) (lv' := [(5, .int (x5 + (1 : Int32))), (6, .int r6), (0, .ref a0), (1, .long p1), (3, .int p3), (4, .int x4)]) hx hb dX11_mostAlike_115 hl (k := 5) rfl rfl (by decide) rfl (fun ls hl => ?_)
              refine lv_goto (tgt := 33) hx hb dX11_mostAlike_118 (by decide) ?_
              exact ih x4 (x5 + (1 : Int32)) g0_alike H locs ls hf hP hD hS (lv_sub hl [2, 3, 4, 5, 0] rfl)
            · replace hf := im c_11 hf
              refine lv_aload_n hx hb dX11_mostAlike_90 rfl (lv_at hl 1 rfl) ?_
              refine va_get (D := D.1) (ci := 8) (v := .ref a0_alike) (C := RX11) (T := TX11) (N := 9) hx hb hts hwX11 hown hK.1 hP 0 rfl rfl 8 (by decide) l69 (fun _ h9 => h9) rfl dX11_mostAlike_91 ?_
              refine lv_iload hx hb dX11_mostAlike_94 (lv_at hl 0 rfl) ?_
              refine lv_dup2_11 hx hb dX11_mostAlike_96 rfl rfl ?_
              obtain ⟨h_12, hf⟩ := gd hf
              refine va_iald hx hb hK.1 hP 4 1 rfl rfl h_12 dX11_mostAlike_97 ?_
              refine lv_iconst (v := 1) hx hb dX11_mostAlike_98 (by decide) ?_
              refine lv_iadd hx hb dX11_mostAlike_99 ?_
              obtain ⟨h_13, hf⟩ := gd hf
              refine va_iast hx hb hK.1 hP hD hS 4 1 rfl rfl h_13 dX11_mostAlike_100 (fun H locs hP hD hS => ?_)
              have hP : va_P D.1 vwCl [(a0, .inr (8, [.ref a0_now, .ref a0_images, .ref a0_merges, .ref a0_cut, .ref a0_index, .ref a0_otherIndex, .ref a0_readWords, .ref a0_triedPattern, .ref a0_alike])), (a0_now, .inr (6, [.ref a0_now_tape, .ref a0_now_dictionary, .ref a0_now_coming, .ref a0_now_pattern, .ref a0_now_fault, .int v0_now_edits])), (a0_now_dictionary, .inr (5, [.ref a0_now_dictionary_rows, .int v0_now_dictionary_size])), (a0_now_dictionary_rows, .inl (D.2 2, 40, .inr (.inl g0_now_dictionary_rows))), (a0_alike, .inl (D.2 1, 32, .inl (upd g0_alike (r6).toNatClampNeg ((g0_alike (r6).toNatClampNeg) + (1 : Int32)))))] H := hP
              have hD : va_D A [(a0, .inr (8, [.ref a0_now, .ref a0_images, .ref a0_merges, .ref a0_cut, .ref a0_index, .ref a0_otherIndex, .ref a0_readWords, .ref a0_triedPattern, .ref a0_alike])), (a0_now, .inr (6, [.ref a0_now_tape, .ref a0_now_dictionary, .ref a0_now_coming, .ref a0_now_pattern, .ref a0_now_fault, .int v0_now_edits])), (a0_now_dictionary, .inr (5, [.ref a0_now_dictionary_rows, .int v0_now_dictionary_size])), (a0_now_dictionary_rows, .inl (D.2 2, 40, .inr (.inl g0_now_dictionary_rows))), (a0_alike, .inl (D.2 1, 32, .inl (upd g0_alike (r6).toNatClampNeg ((g0_alike (r6).toNatClampNeg) + (1 : Int32)))))] := hD
              refine lv_iload hx hb dX11_mostAlike_101 (lv_at hl 4 rfl) ?_
              refine lv_aload_n hx hb dX11_mostAlike_103 rfl (lv_at hl 1 rfl) ?_
              refine va_get (D := D.1) (ci := 8) (v := .ref a0_alike) (C := RX11) (T := TX11) (N := 9) hx hb hts hwX11 hown hK.1 hP 0 rfl rfl 8 (by decide) l69 (fun _ h9 => h9) rfl dX11_mostAlike_104 ?_
              refine lv_iload hx hb dX11_mostAlike_107 (lv_at hl 0 rfl) ?_
              obtain ⟨h_14, hf⟩ := gd hf
              refine va_iald hx hb hK.1 hP 4 1 rfl rfl h_14 dX11_mostAlike_109 ?_
              refine va_mmax hx hb (hml.trans hl.1.symm) hown l328 hstmax hinM hcdmax (Nat.le_of_ble_eq_true rfl) (Nat.le_of_ble_eq_true rfl) (Nat.zero_le _) (Nat.zero_le _) dX11_mostAlike_110 ?_
              refine lv_istore (lv' := [(4, .int (if x4 < ((upd g0_alike (r6).toNatClampNeg ((g0_alike (r6).toNatClampNeg) + (1 : Int32))) (r6).toNatClampNeg) then ((upd g0_alike (r6).toNatClampNeg ((g0_alike (r6).toNatClampNeg) + (1 : Int32))) (r6).toNatClampNeg) else x4)), (6, .int r6), (0, .ref a0), (1, .long p1), (3, .int p3), (5, .int x5)]) hx hb dX11_mostAlike_113 hl (by decide) rfl (fun ls hl => ?_)
              refine lv_iinc (v := (x5 + (1 : Int32))) (lv' := [(5, .int (x5 + (1 : Int32))), (4, .int (if x4 < ((upd g0_alike (r6).toNatClampNeg ((g0_alike (r6).toNatClampNeg) + (1 : Int32))) (r6).toNatClampNeg) then ((upd g0_alike (r6).toNatClampNeg ((g0_alike (r6).toNatClampNeg) + (1 : Int32))) (r6).toNatClampNeg) else x4)), (6, .int r6), (0, .ref a0), (1, .long p1), (3, .int p3)]) hx hb dX11_mostAlike_115 hl (k := 5) rfl rfl (by decide) rfl (fun ls hl => ?_)
              refine lv_goto (tgt := 33) hx hb dX11_mostAlike_118 (by decide) ?_
              exact ih (if x4 < ((upd g0_alike (r6).toNatClampNeg ((g0_alike (r6).toNatClampNeg) + (1 : Int32))) (r6).toNatClampNeg) then ((upd g0_alike (r6).toNatClampNeg ((g0_alike (r6).toNatClampNeg) + (1 : Int32))) (r6).toNatClampNeg) else x4) (x5 + (1 : Int32)) (upd g0_alike (r6).toNatClampNeg ((g0_alike (r6).toNatClampNeg) + (1 : Int32))) H locs ls hf hP hD hS (lv_sub hl [3, 4, 5, 1, 0] rfl)
  have k3 : ∀ K : Nat, ∀ (x4 : Int32) (g0_alike : Nat → Int32) (H : Heap) (locs : List Loc) (ls : Array Slot), fX11_mostAlike_3 N v0_now_dictionary_size g0_now_dictionary_rows p1 p3 K x4 g0_alike = some res → va_P D.1 vwCl [(a0, .inr (8, [.ref a0_now, .ref a0_images, .ref a0_merges, .ref a0_cut, .ref a0_index, .ref a0_otherIndex, .ref a0_readWords, .ref a0_triedPattern, .ref a0_alike])), (a0_now, .inr (6, [.ref a0_now_tape, .ref a0_now_dictionary, .ref a0_now_coming, .ref a0_now_pattern, .ref a0_now_fault, .int v0_now_edits])), (a0_now_dictionary, .inr (5, [.ref a0_now_dictionary_rows, .int v0_now_dictionary_size])), (a0_now_dictionary_rows, .inl (D.2 2, 40, .inr (.inl g0_now_dictionary_rows))), (a0_alike, .inl (D.2 1, 32, .inl g0_alike))] H → va_D A [(a0, .inr (8, [.ref a0_now, .ref a0_images, .ref a0_merges, .ref a0_cut, .ref a0_index, .ref a0_otherIndex, .ref a0_readWords, .ref a0_triedPattern, .ref a0_alike])), (a0_now, .inr (6, [.ref a0_now_tape, .ref a0_now_dictionary, .ref a0_now_coming, .ref a0_now_pattern, .ref a0_now_fault, .int v0_now_edits])), (a0_now_dictionary, .inr (5, [.ref a0_now_dictionary_rows, .int v0_now_dictionary_size])), (a0_now_dictionary_rows, .inl (D.2 2, 40, .inr (.inl g0_now_dictionary_rows))), (a0_alike, .inl (D.2 1, 32, .inl g0_alike))] → va_S A s.heap H locs → lv_has ls 7 [(0, .ref a0), (1, .long p1), (3, .int p3), (4, .int x4)] → W p l e (headSpec wsX11_mostAlike ({ frames := 2, cells := 0, slots := 0, locals := 42 } : Room)).room s m ([.ref a0, .long p1, .int p3] : List Value).toArray below meth c H locs 0 0 Q0 (F0 m 3 ls []) := by
    intro K
    induction K with
    | zero =>
      intro x4 g0_alike H locs ls hf
      rw [fX11_mostAlike_3] at hf
      cases hf
    | succ K ih =>
      intro x4 g0_alike H locs ls hf hP hD hS hl
      rw [fX11_mostAlike_3] at hf
      refine lv_iload hx hb dX11_mostAlike_3 (lv_at hl 3 rfl) ?_
      refine lv_aload_n hx hb dX11_mostAlike_5 rfl (lv_at hl 0 rfl) ?_
      refine va_get (D := D.1) (ci := 8) (v := .ref a0_alike) (C := RX11) (T := TX11) (N := 9) hx hb hts hwX11 hown hK.1 hP 0 rfl rfl 8 (by decide) l69 (fun _ h9 => h9) rfl dX11_mostAlike_6 ?_
      refine va_alen hx hb hK.1 hP 4 1 rfl rfl (v := (Int32.ofNat 32)) rfl dX11_mostAlike_9 ?_
      refine lv_icmp_ge (tgt := 27) hx hb dX11_mostAlike_10 (by decide) (fun c_1 => ?_) (fun c_1 => ?_)
      · replace hf := ip c_1 hf
        refine lv_iconst (v := 0) hx hb dX11_mostAlike_27 (by decide) ?_
        refine lv_istore (lv' := [(4, .int (0 : Int32)), (0, .ref a0), (1, .long p1), (3, .int p3)]) hx hb dX11_mostAlike_28 hl (by decide) rfl (fun ls hl => ?_)
        refine lv_iconst (v := 0) hx hb dX11_mostAlike_30 (by decide) ?_
        refine lv_istore (lv' := [(5, .int (0 : Int32)), (4, .int (0 : Int32)), (0, .ref a0), (1, .long p1), (3, .int p3)]) hx hb dX11_mostAlike_31 hl (by decide) rfl (fun ls hl => ?_)
        exact k33 N (0 : Int32) (0 : Int32) g0_alike H locs ls hf hP hD hS (lv_sub hl [2, 3, 4, 1, 0] rfl)
      · replace hf := im c_1 hf
        refine lv_aload_n hx hb dX11_mostAlike_13 rfl (lv_at hl 0 rfl) ?_
        refine va_get (D := D.1) (ci := 8) (v := .ref a0_alike) (C := RX11) (T := TX11) (N := 9) hx hb hts hwX11 hown hK.1 hP 0 rfl rfl 8 (by decide) l69 (fun _ h9 => h9) rfl dX11_mostAlike_14 ?_
        refine lv_iload hx hb dX11_mostAlike_17 (lv_at hl 3 rfl) ?_
        refine lv_iconst (v := 0) hx hb dX11_mostAlike_19 (by decide) ?_
        obtain ⟨h_2, hf⟩ := gd hf
        refine va_iast hx hb hK.1 hP hD hS 4 1 rfl rfl h_2 dX11_mostAlike_20 (fun H locs hP hD hS => ?_)
        have hP : va_P D.1 vwCl [(a0, .inr (8, [.ref a0_now, .ref a0_images, .ref a0_merges, .ref a0_cut, .ref a0_index, .ref a0_otherIndex, .ref a0_readWords, .ref a0_triedPattern, .ref a0_alike])), (a0_now, .inr (6, [.ref a0_now_tape, .ref a0_now_dictionary, .ref a0_now_coming, .ref a0_now_pattern, .ref a0_now_fault, .int v0_now_edits])), (a0_now_dictionary, .inr (5, [.ref a0_now_dictionary_rows, .int v0_now_dictionary_size])), (a0_now_dictionary_rows, .inl (D.2 2, 40, .inr (.inl g0_now_dictionary_rows))), (a0_alike, .inl (D.2 1, 32, .inl (upd g0_alike (x4).toNatClampNeg (0 : Int32))))] H := hP
        have hD : va_D A [(a0, .inr (8, [.ref a0_now, .ref a0_images, .ref a0_merges, .ref a0_cut, .ref a0_index, .ref a0_otherIndex, .ref a0_readWords, .ref a0_triedPattern, .ref a0_alike])), (a0_now, .inr (6, [.ref a0_now_tape, .ref a0_now_dictionary, .ref a0_now_coming, .ref a0_now_pattern, .ref a0_now_fault, .int v0_now_edits])), (a0_now_dictionary, .inr (5, [.ref a0_now_dictionary_rows, .int v0_now_dictionary_size])), (a0_now_dictionary_rows, .inl (D.2 2, 40, .inr (.inl g0_now_dictionary_rows))), (a0_alike, .inl (D.2 1, 32, .inl (upd g0_alike (x4).toNatClampNeg (0 : Int32))))] := hD
        refine lv_iinc (v := (x4 + (1 : Int32))) (lv' := [(4, .int (x4 + (1 : Int32))), (0, .ref a0), (1, .long p1), (3, .int p3)]) hx hb dX11_mostAlike_21 hl (k := 3) rfl rfl (by decide) rfl (fun ls hl => ?_)
        refine lv_goto (tgt := 3) hx hb dX11_mostAlike_24 (by decide) ?_
        exact ih (x4 + (1 : Int32)) (upd g0_alike (x4).toNatClampNeg (0 : Int32)) H locs ls hf hP hD hS (lv_sub hl [1, 2, 3, 0] rfl)
  unfold fX11_mostAlike at hf
  refine lv_iconst (v := 0) hx hb dX11_mostAlike_0 (by decide) ?_
  refine lv_istore (lv' := [(4, .int (0 : Int32)), (0, .ref a0), (1, .long p1), (3, .int p3)]) hx hb dX11_mostAlike_1 hl (by decide) rfl (fun ls hl => ?_)
  exact k3 N (0 : Int32) g0_alike H locs ls hf hP hD hS (lv_sub hl [1, 2, 3, 0] rfl)
def fX11_placeToAsk_21 (N : Nat) (v0_now_dictionary_size : Int32) (g0_now_dictionary_rows : Nat → Int64) (p1 : Int64) : Nat → Int32 → Int32 → Int32 → (Nat → Int32) → Option (Int32 × (Nat → Int32))
  | 0, _, _, _, _ => none
  | K + 1, x3, x4, x5, g0_alike =>
    if (7 : Int32) ≤ x5 then
      some (x3, g0_alike)
    else
      Option.bind (fX11_mostAlike N v0_now_dictionary_size g0_now_dictionary_rows g0_alike p1 x5) fun r4 =>
      if x4 ≤ r4.1 then
        (fX11_placeToAsk_21 N v0_now_dictionary_size g0_now_dictionary_rows p1 K) x3 x4 (x5 + (1 : Int32)) r4.2
      else
        (fX11_placeToAsk_21 N v0_now_dictionary_size g0_now_dictionary_rows p1 K) x5 r4.1 (x5 + (1 : Int32)) r4.2
def fX11_placeToAsk (N : Nat) (v0_now_dictionary_size : Int32) (g0_now_dictionary_rows : Nat → Int64) (g0_alike : Nat → Int32) (p1 : Int64) : Option (Int32 × (Nat → Int32)) :=
  if (lg_cmp p1 (0 : Int64)) = (0 : Int32) then
    some ((-1 : Int32), g0_alike)
  else
    Option.bind (fX11_mostAlike N v0_now_dictionary_size g0_now_dictionary_rows g0_alike p1 (0 : Int32)) fun r2 =>
    fX11_placeToAsk_21 N v0_now_dictionary_size g0_now_dictionary_rows p1 N (0 : Int32) r2.1 (1 : Int32) r2.2
set_option maxHeartbeats 4000000 in
set_option maxRecDepth 100000 in
theorem mX11_placeToAsk (l : Launch) (D : zG) (a0 : Nat) (a0_now : Nat) (a0_images : Nat) (a0_merges : Nat) (a0_cut : Nat) (a0_index : Nat) (a0_otherIndex : Nat) (a0_readWords : Nat) (a0_triedPattern : Nat) (a0_alike : Nat) (a0_now_tape : Nat) (a0_now_dictionary : Nat) (a0_now_coming : Nat) (a0_now_pattern : Nat) (a0_now_fault : Nat) (a0_now_dictionary_rows : Nat) (sz : Nat)  (v0_now_edits : Int32) (v0_now_dictionary_size : Int32) (g0_now_dictionary_rows : Nat → Int64) (g0_alike : Nat → Int32) (p1 : Int64) (N : Nat) (res : Int32 × (Nat → Int32)) (hf : fX11_placeToAsk N v0_now_dictionary_size g0_now_dictionary_rows g0_alike p1 = some res) : Met l yX11_placeToAsk wsX11_placeToAsk ({ frames := 3, cells := 0, slots := 0, locals := 68 } : Room) (va_Pc [.ref a0, .long p1] (zW D sz [(a0, .inr (8, [.ref a0_now, .ref a0_images, .ref a0_merges, .ref a0_cut, .ref a0_index, .ref a0_otherIndex, .ref a0_readWords, .ref a0_triedPattern, .ref a0_alike])), (a0_now, .inr (6, [.ref a0_now_tape, .ref a0_now_dictionary, .ref a0_now_coming, .ref a0_now_pattern, .ref a0_now_fault, .int v0_now_edits])), (a0_now_dictionary, .inr (5, [.ref a0_now_dictionary_rows, .int v0_now_dictionary_size])), (a0_now_dictionary_rows, .inl (D.2 2, 40, .inr (.inl g0_now_dictionary_rows))), (a0_alike, .inl (D.2 1, 32, .inl g0_alike))])) (va_Qi (fun r (_ : Unit) => r = res.1) (fun _ => zB D (va_A [(a0, .inr (8, [.ref a0_now, .ref a0_images, .ref a0_merges, .ref a0_cut, .ref a0_index, .ref a0_otherIndex, .ref a0_readWords, .ref a0_triedPattern, .ref a0_alike])), (a0_now, .inr (6, [.ref a0_now_tape, .ref a0_now_dictionary, .ref a0_now_coming, .ref a0_now_pattern, .ref a0_now_fault, .int v0_now_edits])), (a0_now_dictionary, .inr (5, [.ref a0_now_dictionary_rows, .int v0_now_dictionary_size])), (a0_now_dictionary_rows, .inl (D.2 2, 40, .inr (.inl g0_now_dictionary_rows))), (a0_alike, .inl (D.2 1, 32, .inl g0_alike))] sz) [(a0, .inr (8, [.ref a0_now, .ref a0_images, .ref a0_merges, .ref a0_cut, .ref a0_index, .ref a0_otherIndex, .ref a0_readWords, .ref a0_triedPattern, .ref a0_alike])), (a0_now, .inr (6, [.ref a0_now_tape, .ref a0_now_dictionary, .ref a0_now_coming, .ref a0_now_pattern, .ref a0_now_fault, .int v0_now_edits])), (a0_now_dictionary, .inr (5, [.ref a0_now_dictionary_rows, .int v0_now_dictionary_size])), (a0_now_dictionary_rows, .inl (D.2 2, 40, .inr (.inl g0_now_dictionary_rows))), (a0_alike, .inl (D.2 1, 32, .inl res.2))]) (va_A [(a0, .inr (8, [.ref a0_now, .ref a0_images, .ref a0_merges, .ref a0_cut, .ref a0_index, .ref a0_otherIndex, .ref a0_readWords, .ref a0_triedPattern, .ref a0_alike])), (a0_now, .inr (6, [.ref a0_now_tape, .ref a0_now_dictionary, .ref a0_now_coming, .ref a0_now_pattern, .ref a0_now_fault, .int v0_now_edits])), (a0_now_dictionary, .inr (5, [.ref a0_now_dictionary_rows, .int v0_now_dictionary_size])), (a0_now_dictionary_rows, .inl (D.2 2, 40, .inr (.inl g0_now_dictionary_rows))), (a0_alike, .inl (D.2 1, 32, .inl g0_alike))] sz)) 0 0 (va_A [(a0, .inr (8, [.ref a0_now, .ref a0_images, .ref a0_merges, .ref a0_cut, .ref a0_index, .ref a0_otherIndex, .ref a0_readWords, .ref a0_triedPattern, .ref a0_alike])), (a0_now, .inr (6, [.ref a0_now_tape, .ref a0_now_dictionary, .ref a0_now_coming, .ref a0_now_pattern, .ref a0_now_fault, .int v0_now_edits])), (a0_now_dictionary, .inr (5, [.ref a0_now_dictionary_rows, .int v0_now_dictionary_size])), (a0_now_dictionary_rows, .inl (D.2 2, 40, .inr (.inl g0_now_dictionary_rows))), (a0_alike, .inl (D.2 1, 32, .inl g0_alike))] sz) := by
  refine Met.ofW (cc := cX11_placeToAsk) (maxL := 7) (ret := (some .int)) (by decide) rfl ?_
  intro p e s m args below meth c s₁ B hml hv
  obtain ⟨rfl, hsz, hP, hK, hD0⟩ := hv
  have hx := B.exec
  have hb := B.bytes
  have hr := B.returns
  have hts := atoms_spec (ws := wsX11_placeToAsk) B.pre
  have hown : s.vm.findClass RX11 = some m.cls := findClass_of_methodNamed B.named
  have hlocks := B.notSynchronized
  subst hsz
  have hD := hD0.self (sz := s.heap.size)
  generalize hAe : va_A [(a0, .inr (8, [.ref a0_now, .ref a0_images, .ref a0_merges, .ref a0_cut, .ref a0_index, .ref a0_otherIndex, .ref a0_readWords, .ref a0_triedPattern, .ref a0_alike])), (a0_now, .inr (6, [.ref a0_now_tape, .ref a0_now_dictionary, .ref a0_now_coming, .ref a0_now_pattern, .ref a0_now_fault, .int v0_now_edits])), (a0_now_dictionary, .inr (5, [.ref a0_now_dictionary_rows, .int v0_now_dictionary_size])), (a0_now_dictionary_rows, .inl (D.2 2, 40, .inr (.inl g0_now_dictionary_rows))), (a0_alike, .inl (D.2 1, 32, .inl g0_alike))] s.heap.size = A at hD ⊢
  have hA : ∀ q : Nat, s.heap.size ≤ q → A q := fun q h => by rw [← hAe]; exact Or.inr h
  have hl := lv_entry ([.ref a0, .long p1]) (n := 7) (Nat.le_of_ble_eq_true rfl)
  rw [lg_entry_eq]
  generalize (lg_sl ([.ref a0, .long p1]) ++ List.replicate (7 - (lg_sl ([.ref a0, .long p1])).length) Slot.unset).toArray = ls at hl ⊢
  have hl : lv_has ls 7 [(0, .ref a0), (1, .long p1)] := hl
  refine zStart (A := A) hP (fun Q0 H locs hQ hP hS => ?_)
  have k21 : ∀ K : Nat, ∀ (x3 : Int32) (x4 : Int32) (x5 : Int32) (g0_alike : Nat → Int32) (H : Heap) (locs : List Loc) (ls : Array Slot), fX11_placeToAsk_21 N v0_now_dictionary_size g0_now_dictionary_rows p1 K x3 x4 x5 g0_alike = some res → va_P D.1 vwCl [(a0, .inr (8, [.ref a0_now, .ref a0_images, .ref a0_merges, .ref a0_cut, .ref a0_index, .ref a0_otherIndex, .ref a0_readWords, .ref a0_triedPattern, .ref a0_alike])), (a0_now, .inr (6, [.ref a0_now_tape, .ref a0_now_dictionary, .ref a0_now_coming, .ref a0_now_pattern, .ref a0_now_fault, .int v0_now_edits])), (a0_now_dictionary, .inr (5, [.ref a0_now_dictionary_rows, .int v0_now_dictionary_size])), (a0_now_dictionary_rows, .inl (D.2 2, 40, .inr (.inl g0_now_dictionary_rows))), (a0_alike, .inl (D.2 1, 32, .inl g0_alike))] H → va_D A [(a0, .inr (8, [.ref a0_now, .ref a0_images, .ref a0_merges, .ref a0_cut, .ref a0_index, .ref a0_otherIndex, .ref a0_readWords, .ref a0_triedPattern, .ref a0_alike])), (a0_now, .inr (6, [.ref a0_now_tape, .ref a0_now_dictionary, .ref a0_now_coming, .ref a0_now_pattern, .ref a0_now_fault, .int v0_now_edits])), (a0_now_dictionary, .inr (5, [.ref a0_now_dictionary_rows, .int v0_now_dictionary_size])), (a0_now_dictionary_rows, .inl (D.2 2, 40, .inr (.inl g0_now_dictionary_rows))), (a0_alike, .inl (D.2 1, 32, .inl g0_alike))] → va_S A s.heap H locs → lv_has ls 7 [(0, .ref a0), (1, .long p1), (3, .int x3), (4, .int x4), (5, .int x5)] → W p l e (headSpec wsX11_placeToAsk ({ frames := 3, cells := 0, slots := 0, locals := 68 } : Room)).room s m ([.ref a0, .long p1] : List Value).toArray below meth c H locs 0 0 Q0 (F0 m 21 ls []) := by
    intro K
    induction K with
    | zero =>
      intro x3 x4 x5 g0_alike H locs ls hf
      rw [fX11_placeToAsk_21] at hf
      cases hf
    | succ K ih =>
      intro x3 x4 x5 g0_alike H locs ls hf hP hD hS hl
      rw [fX11_placeToAsk_21] at hf
      refine lv_iload hx hb dX11_placeToAsk_21 (lv_at hl 4 rfl) ?_
      refine lv_bipush (v := 7) hx hb dX11_placeToAsk_23 (by decide) ?_
      refine lv_icmp_ge (tgt := 57) hx hb dX11_placeToAsk_25 (by decide) (fun c_3 => ?_) (fun c_3 => ?_)
      · replace hf := ip c_3 hf
        refine lv_iload_n hx hb dX11_placeToAsk_57 rfl (lv_at hl 2 rfl) ?_
        have he := Option.some.inj hf
        rw [hQ]
        exact W.iret (v := x3) hx hb hr (fun t ht hW => by rw [← he]; exact ⟨⟨x3, (), rfl, rfl, by rw [ht]; exact hP, hD⟩, hS.F ht⟩) hS.2.2 dX11_placeToAsk_58
      · replace hf := im c_3 hf
        refine lv_aload_n hx hb dX11_placeToAsk_28 rfl (lv_at hl 0 rfl) ?_
        refine lv_lload_n hx hb dX11_placeToAsk_29 rfl (lv_at hl 1 rfl) ?_
        refine lv_iload hx hb dX11_placeToAsk_30 (lv_at hl 4 rfl) ?_
        obtain ⟨r4, hr4, hf⟩ := bd hf
        refine zVi (As := [.long p1, .int x5]) (rest := []) (ci := 8) (q0 := 0) (wn := [(a0, .inr (8, [.ref a0_now, .ref a0_images, .ref a0_merges, .ref a0_cut, .ref a0_index, .ref a0_otherIndex, .ref a0_readWords, .ref a0_triedPattern, .ref a0_alike])), (a0_now, .inr (6, [.ref a0_now_tape, .ref a0_now_dictionary, .ref a0_now_coming, .ref a0_now_pattern, .ref a0_now_fault, .int v0_now_edits])), (a0_now_dictionary, .inr (5, [.ref a0_now_dictionary_rows, .int v0_now_dictionary_size])), (a0_now_dictionary_rows, .inl (D.2 2, 40, .inr (.inl g0_now_dictionary_rows))), (a0_alike, .inl (D.2 1, 32, .inl r4.2))]) ⟨hx, hb, hml, hown, hts⟩ (mX11_mostAlike l D a0 a0_now a0_images a0_merges a0_cut a0_index a0_otherIndex a0_readWords a0_triedPattern a0_alike a0_now_tape a0_now_dictionary a0_now_coming a0_now_pattern a0_now_fault a0_now_dictionary_rows H.size v0_now_edits v0_now_dictionary_size g0_now_dictionary_rows g0_alike p1 x5 N r4 hr4) (cwV 2 hts gX11_placeToAsk_X11_mostAlike rfl rfl rfl (by decide +kernel) ⟨Nat.le_of_ble_eq_true rfl, Nat.le_of_ble_eq_true rfl⟩) hK hP hD hS hA [0, 1, 2, 3, 4] [] [0, 1, 2, 3, 4] rfl (by decide) rfl (by decide) (by decide) rfl (by decide) rfl rfl rfl hl.1 rfl (Nat.le_of_ble_eq_true rfl) dX11_placeToAsk_32 ⟨Nat.zero_le _, Nat.zero_le _⟩ (fun H locs hP hD hS => ?_)
        refine lv_istore (lv' := [(6, .int r4.1), (0, .ref a0), (1, .long p1), (3, .int x3), (4, .int x4), (5, .int x5)]) hx hb dX11_placeToAsk_35 hl (by decide) rfl (fun ls hl => ?_)
        refine lv_iload hx hb dX11_placeToAsk_37 (lv_at hl 0 rfl) ?_
        refine lv_iload hx hb dX11_placeToAsk_39 (lv_at hl 4 rfl) ?_
        refine lv_icmp_ge (tgt := 51) hx hb dX11_placeToAsk_41 (by decide) (fun c_5 => ?_) (fun c_5 => ?_)
        · replace hf := ip c_5 hf
          refine lv_iinc (v := (x5 + (1 : Int32))) (lv' := [(5, .int (x5 + (1 : Int32))), (6, .int r4.1), (0, .ref a0), (1, .long p1), (3, .int x3), (4, .int x4)]) hx hb dX11_placeToAsk_51 hl (k := 5) rfl rfl (by decide) rfl (fun ls hl => ?_)
          refine lv_goto (tgt := 21) hx hb dX11_placeToAsk_54 (by decide) ?_
          exact ih x3 x4 (x5 + (1 : Int32)) r4.2 H locs ls hf hP hD hS (lv_sub hl [2, 3, 4, 5, 0] rfl)
        · replace hf := im c_5 hf
          refine lv_iload hx hb dX11_placeToAsk_44 (lv_at hl 5 rfl) ?_
          refine lv_istore_n (lv' := [(3, .int x5), (6, .int r4.1), (0, .ref a0), (1, .long p1), (4, .int x4), (5, .int x5)]) hx hb dX11_placeToAsk_46 rfl hl (by decide) rfl (fun ls hl => ?_)
          refine lv_iload hx hb dX11_placeToAsk_47 (lv_at hl 1 rfl) ?_
          refine lv_istore (lv' := [(4, .int r4.1), (3, .int x5), (6, .int r4.1), (0, .ref a0), (1, .long p1), (5, .int x5)]) hx hb dX11_placeToAsk_49 hl (by decide) rfl (fun ls hl => ?_)
          refine lv_iinc (v := (x5 + (1 : Int32))) (lv' := [(5, .int (x5 + (1 : Int32))), (4, .int r4.1), (3, .int x5), (6, .int r4.1), (0, .ref a0), (1, .long p1)]) hx hb dX11_placeToAsk_51 hl (k := 5) rfl rfl (by decide) rfl (fun ls hl => ?_)
          refine lv_goto (tgt := 21) hx hb dX11_placeToAsk_54 (by decide) ?_
          exact ih x5 r4.1 (x5 + (1 : Int32)) r4.2 H locs ls hf hP hD hS (lv_sub hl [4, 5, 2, 1, 0] rfl)
  unfold fX11_placeToAsk at hf
  refine lv_lload_n hx hb dX11_placeToAsk_0 rfl (lv_at hl 1 rfl) ?_
  refine lv_lconst (v := 0) hx hb dX11_placeToAsk_1 (by decide) ?_
  refine W.lcmp hx hb dX11_placeToAsk_2 ?_
  refine lv_if_ne (tgt := 8) hx hb dX11_placeToAsk_3 (by decide) (fun c_1 => ?_) (fun c_1 => ?_)
  · replace hf := im c_1 hf
    refine lv_iconst (v := 0) hx hb dX11_placeToAsk_8 (by decide) ?_
    refine lv_istore_n (lv' := [(3, .int (0 : Int32)), (0, .ref a0), (1, .long p1)]) hx hb dX11_placeToAsk_9 rfl hl (by decide) rfl (fun ls hl => ?_)
    refine lv_aload_n hx hb dX11_placeToAsk_10 rfl (lv_at hl 1 rfl) ?_
    refine lv_lload_n hx hb dX11_placeToAsk_11 rfl (lv_at hl 2 rfl) ?_
    refine lv_iconst (v := 0) hx hb dX11_placeToAsk_12 (by decide) ?_
    obtain ⟨r2, hr2, hf⟩ := bd hf
    refine zVi (As := [.long p1, .int (0 : Int32)]) (rest := []) (ci := 8) (q0 := 0) (wn := [(a0, .inr (8, [.ref a0_now, .ref a0_images, .ref a0_merges, .ref a0_cut, .ref a0_index, .ref a0_otherIndex, .ref a0_readWords, .ref a0_triedPattern, .ref a0_alike])), (a0_now, .inr (6, [.ref a0_now_tape, .ref a0_now_dictionary, .ref a0_now_coming, .ref a0_now_pattern, .ref a0_now_fault, .int v0_now_edits])), (a0_now_dictionary, .inr (5, [.ref a0_now_dictionary_rows, .int v0_now_dictionary_size])), (a0_now_dictionary_rows, .inl (D.2 2, 40, .inr (.inl g0_now_dictionary_rows))), (a0_alike, .inl (D.2 1, 32, .inl r2.2))]) ⟨hx, hb, hml, hown, hts⟩ (mX11_mostAlike l D a0 a0_now a0_images a0_merges a0_cut a0_index a0_otherIndex a0_readWords a0_triedPattern a0_alike a0_now_tape a0_now_dictionary a0_now_coming a0_now_pattern a0_now_fault a0_now_dictionary_rows H.size v0_now_edits v0_now_dictionary_size g0_now_dictionary_rows g0_alike p1 (0 : Int32) N r2 hr2) (cwV 2 hts gX11_placeToAsk_X11_mostAlike rfl rfl rfl (by decide +kernel) ⟨Nat.le_of_ble_eq_true rfl, Nat.le_of_ble_eq_true rfl⟩) hK hP hD hS hA [0, 1, 2, 3, 4] [] [0, 1, 2, 3, 4] rfl (by decide) rfl (by decide) (by decide) rfl (by decide) rfl rfl rfl hl.1 rfl (Nat.le_of_ble_eq_true rfl) dX11_placeToAsk_13 ⟨Nat.zero_le _, Nat.zero_le _⟩ (fun H locs hP hD hS => ?_)
    refine lv_istore (lv' := [(4, .int r2.1), (3, .int (0 : Int32)), (0, .ref a0), (1, .long p1)]) hx hb dX11_placeToAsk_16 hl (by decide) rfl (fun ls hl => ?_)
    refine lv_iconst (v := 1) hx hb dX11_placeToAsk_18 (by decide) ?_
    refine lv_istore (lv' := [(5, .int (1 : Int32)), (4, .int r2.1), (3, .int (0 : Int32)), (0, .ref a0), (1, .long p1)]) hx hb dX11_placeToAsk_19 hl (by decide) rfl (fun ls hl => ?_)
    exact k21 N (0 : Int32) r2.1 (1 : Int32) r2.2 H locs ls hf hP hD hS (lv_sub hl [3, 4, 2, 1, 0] rfl)
  · replace hf := ip c_1 hf
    refine lv_iconst (v := -1) hx hb dX11_placeToAsk_6 (by decide) ?_
    have he := Option.some.inj hf
    rw [hQ]
    exact W.iret (v := (-1 : Int32)) hx hb hr (fun t ht hW => by rw [← he]; exact ⟨⟨(-1 : Int32), (), rfl, rfl, by rw [ht]; exact hP, hD⟩, hS.F ht⟩) hS.2.2 dX11_placeToAsk_7
def fX11_wordsThatBeginAlone_4 (N : Nat) (v0_now_dictionary_size : Int32) (g0_now_dictionary_rows : Nat → Int64) : Nat → Int32 → Int32 → Option (Int32)
  | 0, _, _ => none
  | K + 1, x1, x2 =>
    Option.bind (fX7_size v0_now_dictionary_size) fun r1 =>
    if r1 ≤ x2 then
      some (x1)
    else
      Option.bind (fX7_at 40 v0_now_dictionary_size g0_now_dictionary_rows x2) fun r3 =>
      Option.bind (fX8_codeAt r3 (0 : Int32)) fun r4 =>
      Option.bind (fX7_at 40 v0_now_dictionary_size g0_now_dictionary_rows (x2 - (1 : Int32))) fun r5 =>
      Option.bind (fX8_codeAt r5 (0 : Int32)) fun r6 =>
      if r4 = r6 then
        (fX11_wordsThatBeginAlone_4 N v0_now_dictionary_size g0_now_dictionary_rows K) x1 (x2 + (1 : Int32))
      else
        Option.bind (fX7_at 40 v0_now_dictionary_size g0_now_dictionary_rows (x2 + (1 : Int32))) fun r8 =>
        Option.bind (fX8_codeAt r8 (0 : Int32)) fun r9 =>
        if r4 = r9 then
          (fX11_wordsThatBeginAlone_4 N v0_now_dictionary_size g0_now_dictionary_rows K) x1 (x2 + (1 : Int32))
        else
          (fX11_wordsThatBeginAlone_4 N v0_now_dictionary_size g0_now_dictionary_rows K) (x1 + (1 : Int32)) (x2 + (1 : Int32))
def fX11_wordsThatBeginAlone (N : Nat) (v0_now_dictionary_size : Int32) (g0_now_dictionary_rows : Nat → Int64) : Option (Int32) :=
  fX11_wordsThatBeginAlone_4 N v0_now_dictionary_size g0_now_dictionary_rows N (0 : Int32) (0 : Int32)
set_option maxHeartbeats 4000000 in
set_option maxRecDepth 100000 in
theorem mX11_wordsThatBeginAlone (l : Launch) (D : zG) (a0 : Nat) (a0_now : Nat) (a0_images : Nat) (a0_merges : Nat) (a0_cut : Nat) (a0_index : Nat) (a0_otherIndex : Nat) (a0_readWords : Nat) (a0_triedPattern : Nat) (a0_alike : Nat) (a0_now_tape : Nat) (a0_now_dictionary : Nat) (a0_now_coming : Nat) (a0_now_pattern : Nat) (a0_now_fault : Nat) (a0_now_dictionary_rows : Nat) (sz : Nat)  (v0_now_edits : Int32) (v0_now_dictionary_size : Int32) (g0_now_dictionary_rows : Nat → Int64)  (N : Nat) (res : Int32) (hf : fX11_wordsThatBeginAlone N v0_now_dictionary_size g0_now_dictionary_rows = some res) : Met l yX11_wordsThatBeginAlone wsX11_wordsThatBeginAlone ({ frames := 2, cells := 0, slots := 0, locals := 42 } : Room) (va_Pc [.ref a0] (zW D sz [(a0, .inr (8, [.ref a0_now, .ref a0_images, .ref a0_merges, .ref a0_cut, .ref a0_index, .ref a0_otherIndex, .ref a0_readWords, .ref a0_triedPattern, .ref a0_alike])), (a0_now, .inr (6, [.ref a0_now_tape, .ref a0_now_dictionary, .ref a0_now_coming, .ref a0_now_pattern, .ref a0_now_fault, .int v0_now_edits])), (a0_now_dictionary, .inr (5, [.ref a0_now_dictionary_rows, .int v0_now_dictionary_size])), (a0_now_dictionary_rows, .inl (D.2 2, 40, .inr (.inl g0_now_dictionary_rows)))])) (va_Qi (fun r (_ : Unit) => r = res) (fun _ => zB D (va_A [(a0, .inr (8, [.ref a0_now, .ref a0_images, .ref a0_merges, .ref a0_cut, .ref a0_index, .ref a0_otherIndex, .ref a0_readWords, .ref a0_triedPattern, .ref a0_alike])), (a0_now, .inr (6, [.ref a0_now_tape, .ref a0_now_dictionary, .ref a0_now_coming, .ref a0_now_pattern, .ref a0_now_fault, .int v0_now_edits])), (a0_now_dictionary, .inr (5, [.ref a0_now_dictionary_rows, .int v0_now_dictionary_size])), (a0_now_dictionary_rows, .inl (D.2 2, 40, .inr (.inl g0_now_dictionary_rows)))] sz) [(a0, .inr (8, [.ref a0_now, .ref a0_images, .ref a0_merges, .ref a0_cut, .ref a0_index, .ref a0_otherIndex, .ref a0_readWords, .ref a0_triedPattern, .ref a0_alike])), (a0_now, .inr (6, [.ref a0_now_tape, .ref a0_now_dictionary, .ref a0_now_coming, .ref a0_now_pattern, .ref a0_now_fault, .int v0_now_edits])), (a0_now_dictionary, .inr (5, [.ref a0_now_dictionary_rows, .int v0_now_dictionary_size])), (a0_now_dictionary_rows, .inl (D.2 2, 40, .inr (.inl g0_now_dictionary_rows)))]) (va_A [(a0, .inr (8, [.ref a0_now, .ref a0_images, .ref a0_merges, .ref a0_cut, .ref a0_index, .ref a0_otherIndex, .ref a0_readWords, .ref a0_triedPattern, .ref a0_alike])), (a0_now, .inr (6, [.ref a0_now_tape, .ref a0_now_dictionary, .ref a0_now_coming, .ref a0_now_pattern, .ref a0_now_fault, .int v0_now_edits])), (a0_now_dictionary, .inr (5, [.ref a0_now_dictionary_rows, .int v0_now_dictionary_size])), (a0_now_dictionary_rows, .inl (D.2 2, 40, .inr (.inl g0_now_dictionary_rows)))] sz)) 0 0 (va_A [(a0, .inr (8, [.ref a0_now, .ref a0_images, .ref a0_merges, .ref a0_cut, .ref a0_index, .ref a0_otherIndex, .ref a0_readWords, .ref a0_triedPattern, .ref a0_alike])), (a0_now, .inr (6, [.ref a0_now_tape, .ref a0_now_dictionary, .ref a0_now_coming, .ref a0_now_pattern, .ref a0_now_fault, .int v0_now_edits])), (a0_now_dictionary, .inr (5, [.ref a0_now_dictionary_rows, .int v0_now_dictionary_size])), (a0_now_dictionary_rows, .inl (D.2 2, 40, .inr (.inl g0_now_dictionary_rows)))] sz) := by
  refine Met.ofW (cc := cX11_wordsThatBeginAlone) (maxL := 4) (ret := (some .int)) (by decide) rfl ?_
  intro p e s m args below meth c s₁ B hml hv
  obtain ⟨rfl, hsz, hP, hK, hD0⟩ := hv
  have hx := B.exec
  have hb := B.bytes
  have hr := B.returns
  have hts := atoms_spec (ws := wsX11_wordsThatBeginAlone) B.pre
  have hown : s.vm.findClass RX11 = some m.cls := findClass_of_methodNamed B.named
  have hlocks := B.notSynchronized
  subst hsz
  have hD := hD0.self (sz := s.heap.size)
  generalize hAe : va_A [(a0, .inr (8, [.ref a0_now, .ref a0_images, .ref a0_merges, .ref a0_cut, .ref a0_index, .ref a0_otherIndex, .ref a0_readWords, .ref a0_triedPattern, .ref a0_alike])), (a0_now, .inr (6, [.ref a0_now_tape, .ref a0_now_dictionary, .ref a0_now_coming, .ref a0_now_pattern, .ref a0_now_fault, .int v0_now_edits])), (a0_now_dictionary, .inr (5, [.ref a0_now_dictionary_rows, .int v0_now_dictionary_size])), (a0_now_dictionary_rows, .inl (D.2 2, 40, .inr (.inl g0_now_dictionary_rows)))] s.heap.size = A at hD ⊢
  have hA : ∀ q : Nat, s.heap.size ≤ q → A q := fun q h => by rw [← hAe]; exact Or.inr h
  have l12 := zat hts 1 (w := .fieldLink RX11 12 "TurnedWords" "now" "LTurnedWords$State;") rfl
  have l112 := zat hts 2 (w := .fieldLink RX11 112 "TurnedWords$State" "dictionary" "LTurnedWords$Rising;") rfl
  have hwX11 : ∀ w ∈ u_ws RX11 TX11 9, w ∈ wsX11_wordsThatBeginAlone := fun w h => List.mem_cons_of_mem _ (List.mem_append_left _ (List.mem_append_left _ (List.mem_append_right _ h)))
  have hwX9 : ∀ w ∈ u_ws RX9 TX9 6, w ∈ wsX11_wordsThatBeginAlone := fun w h => List.mem_cons_of_mem _ (List.mem_append_left _ (List.mem_append_right _ h))
  have hl := lv_entry ([.ref a0]) (n := 4) (Nat.le_of_ble_eq_true rfl)
  rw [lg_entry_eq]
  generalize (lg_sl ([.ref a0]) ++ List.replicate (4 - (lg_sl ([.ref a0])).length) Slot.unset).toArray = ls at hl ⊢
  have hl : lv_has ls 4 [(0, .ref a0)] := hl
  refine zStart (A := A) hP (fun Q0 H locs hQ hP hS => ?_)
  have k4 : ∀ K : Nat, ∀ (x1 : Int32) (x2 : Int32) (H : Heap) (locs : List Loc) (ls : Array Slot), fX11_wordsThatBeginAlone_4 N v0_now_dictionary_size g0_now_dictionary_rows K x1 x2 = some res → va_P D.1 vwCl [(a0, .inr (8, [.ref a0_now, .ref a0_images, .ref a0_merges, .ref a0_cut, .ref a0_index, .ref a0_otherIndex, .ref a0_readWords, .ref a0_triedPattern, .ref a0_alike])), (a0_now, .inr (6, [.ref a0_now_tape, .ref a0_now_dictionary, .ref a0_now_coming, .ref a0_now_pattern, .ref a0_now_fault, .int v0_now_edits])), (a0_now_dictionary, .inr (5, [.ref a0_now_dictionary_rows, .int v0_now_dictionary_size])), (a0_now_dictionary_rows, .inl (D.2 2, 40, .inr (.inl g0_now_dictionary_rows)))] H → va_D A [(a0, .inr (8, [.ref a0_now, .ref a0_images, .ref a0_merges, .ref a0_cut, .ref a0_index, .ref a0_otherIndex, .ref a0_readWords, .ref a0_triedPattern, .ref a0_alike])), (a0_now, .inr (6, [.ref a0_now_tape, .ref a0_now_dictionary, .ref a0_now_coming, .ref a0_now_pattern, .ref a0_now_fault, .int v0_now_edits])), (a0_now_dictionary, .inr (5, [.ref a0_now_dictionary_rows, .int v0_now_dictionary_size])), (a0_now_dictionary_rows, .inl (D.2 2, 40, .inr (.inl g0_now_dictionary_rows)))] → va_S A s.heap H locs → lv_has ls 4 [(0, .ref a0), (1, .int x1), (2, .int x2)] → W p l e (headSpec wsX11_wordsThatBeginAlone ({ frames := 2, cells := 0, slots := 0, locals := 42 } : Room)).room s m ([.ref a0] : List Value).toArray below meth c H locs 0 0 Q0 (F0 m 4 ls []) := by
    intro K
    induction K with
    | zero =>
      intro x1 x2 H locs ls hf
      rw [fX11_wordsThatBeginAlone_4] at hf
      cases hf
    | succ K ih =>
      intro x1 x2 H locs ls hf hP hD hS hl
      rw [fX11_wordsThatBeginAlone_4] at hf
      refine lv_iload_n hx hb dX11_wordsThatBeginAlone_4 rfl (lv_at hl 2 rfl) ?_
      refine lv_aload_n hx hb dX11_wordsThatBeginAlone_5 rfl (lv_at hl 0 rfl) ?_
      refine va_get (D := D.1) (ci := 8) (v := .ref a0_now) (C := RX11) (T := TX11) (N := 9) hx hb hts hwX11 hown hK.1 hP 0 rfl rfl 0 (by decide) l12 (fun _ h9 => h9) rfl dX11_wordsThatBeginAlone_6 ?_
      refine va_get (D := D.1) (ci := 6) (v := .ref a0_now_dictionary) (C := RX9) (T := TX9) (N := 6) hx hb hts hwX9 hown hK.1 hP 1 rfl rfl 1 (by decide) l112 (fun _ h9 => h9) rfl dX11_wordsThatBeginAlone_9 ?_
      obtain ⟨r1, hr1, hf⟩ := bd hf
      refine zVi (As := []) (rest := [.int x2]) (ci := 5) (q0 := 0) (wn := [(a0, .inr (8, [.ref a0_now, .ref a0_images, .ref a0_merges, .ref a0_cut, .ref a0_index, .ref a0_otherIndex, .ref a0_readWords, .ref a0_triedPattern, .ref a0_alike])), (a0_now, .inr (6, [.ref a0_now_tape, .ref a0_now_dictionary, .ref a0_now_coming, .ref a0_now_pattern, .ref a0_now_fault, .int v0_now_edits])), (a0_now_dictionary, .inr (5, [.ref a0_now_dictionary_rows, .int v0_now_dictionary_size])), (a0_now_dictionary_rows, .inl (D.2 2, 40, .inr (.inl g0_now_dictionary_rows)))]) ⟨hx, hb, hml, hown, hts⟩ (mX7_size l D a0_now_dictionary a0_now_dictionary_rows H.size v0_now_dictionary_size r1 hr1) (cwV 0 hts gX11_wordsThatBeginAlone_X7_size rfl rfl rfl (by decide +kernel) ⟨Nat.le_of_ble_eq_true rfl, Nat.le_of_ble_eq_true rfl⟩) hK hP hD hS hA [2] [0, 1, 3] [0, 1, 3, 2] rfl (by decide) rfl (by decide) (by decide) rfl (by decide) rfl rfl rfl hl.1 rfl (Nat.le_of_ble_eq_true rfl) dX11_wordsThatBeginAlone_12 ⟨Nat.zero_le _, Nat.zero_le _⟩ (fun H locs hP hD hS => ?_)
      refine lv_icmp_ge (tgt := 85) hx hb dX11_wordsThatBeginAlone_15 (by decide) (fun c_2 => ?_) (fun c_2 => ?_)
      · replace hf := ip c_2 hf
        refine lv_iload_n hx hb dX11_wordsThatBeginAlone_85 rfl (lv_at hl 1 rfl) ?_
        have he := Option.some.inj hf
        rw [hQ]
        exact W.iret (v := x1) hx hb hr (fun t ht hW => by rw [← he]; exact ⟨⟨x1, (), rfl, rfl, by rw [ht]; exact hP, hD⟩, hS.F ht⟩) hS.2.2 dX11_wordsThatBeginAlone_86
      · replace hf := im c_2 hf
        refine lv_aload_n hx hb dX11_wordsThatBeginAlone_18 rfl (lv_at hl 0 rfl) ?_
        refine va_get (D := D.1) (ci := 8) (v := .ref a0_now) (C := RX11) (T := TX11) (N := 9) hx hb hts hwX11 hown hK.1 hP 0 rfl rfl 0 (by decide) l12 (fun _ h9 => h9) rfl dX11_wordsThatBeginAlone_19 ?_
        refine va_get (D := D.1) (ci := 6) (v := .ref a0_now_dictionary) (C := RX9) (T := TX9) (N := 6) hx hb hts hwX9 hown hK.1 hP 1 rfl rfl 1 (by decide) l112 (fun _ h9 => h9) rfl dX11_wordsThatBeginAlone_22 ?_
        refine lv_iload_n hx hb dX11_wordsThatBeginAlone_25 rfl (lv_at hl 2 rfl) ?_
        obtain ⟨r3, hr3, hf⟩ := bd hf
        refine zVl (As := [.int x2]) (rest := []) (ci := 5) (q0 := 0) (wn := [(a0, .inr (8, [.ref a0_now, .ref a0_images, .ref a0_merges, .ref a0_cut, .ref a0_index, .ref a0_otherIndex, .ref a0_readWords, .ref a0_triedPattern, .ref a0_alike])), (a0_now, .inr (6, [.ref a0_now_tape, .ref a0_now_dictionary, .ref a0_now_coming, .ref a0_now_pattern, .ref a0_now_fault, .int v0_now_edits])), (a0_now_dictionary, .inr (5, [.ref a0_now_dictionary_rows, .int v0_now_dictionary_size])), (a0_now_dictionary_rows, .inl (D.2 2, 40, .inr (.inl g0_now_dictionary_rows)))]) ⟨hx, hb, hml, hown, hts⟩ (mX7_at l D a0_now_dictionary a0_now_dictionary_rows H.size 40 v0_now_dictionary_size g0_now_dictionary_rows x2 r3 hr3) (cwV 1 hts gX11_wordsThatBeginAlone_X7_at rfl rfl rfl (by decide +kernel) ⟨Nat.le_of_ble_eq_true rfl, Nat.le_of_ble_eq_true rfl⟩) hK hP hD hS hA [2, 3] [0, 1] [0, 1, 2, 3] rfl (by decide) rfl (by decide) (by decide) rfl (by decide) rfl rfl rfl hl.1 rfl (Nat.le_of_ble_eq_true rfl) dX11_wordsThatBeginAlone_26 ⟨Nat.zero_le _, Nat.zero_le _⟩ (fun H locs hP hD hS => ?_)
        refine lv_iconst (v := 0) hx hb dX11_wordsThatBeginAlone_29 (by decide) ?_
        obtain ⟨r4, hr4, hf⟩ := bd hf
        refine zSi (As := [.long r3, .int (0 : Int32)]) (rest := []) (wn := [(a0, .inr (8, [.ref a0_now, .ref a0_images, .ref a0_merges, .ref a0_cut, .ref a0_index, .ref a0_otherIndex, .ref a0_readWords, .ref a0_triedPattern, .ref a0_alike])), (a0_now, .inr (6, [.ref a0_now_tape, .ref a0_now_dictionary, .ref a0_now_coming, .ref a0_now_pattern, .ref a0_now_fault, .int v0_now_edits])), (a0_now_dictionary, .inr (5, [.ref a0_now_dictionary_rows, .int v0_now_dictionary_size])), (a0_now_dictionary_rows, .inl (D.2 2, 40, .inr (.inl g0_now_dictionary_rows)))]) ⟨hx, hb, hml, hown, hts⟩ (mX8_codeAt l D H.size r3 (0 : Int32) r4 hr4) (va_cwS 2 hts gX11_wordsThatBeginAlone_X8_codeAt rfl rfl rfl (by decide +kernel) ⟨Nat.le_of_ble_eq_true rfl, Nat.le_of_ble_eq_true rfl⟩) hK hP hD hS hA [] [0, 1, 2, 3] [0, 1, 2, 3] rfl (by decide) rfl (by decide) (by decide) rfl (by decide) rfl hl.1 rfl (Nat.le_of_ble_eq_true rfl) dX11_wordsThatBeginAlone_30 ⟨Nat.zero_le _, Nat.zero_le _⟩ (fun H locs hP hD hS => ?_)
        refine lv_istore_n (lv' := [(3, .int r4), (0, .ref a0), (1, .int x1), (2, .int x2)]) hx hb dX11_wordsThatBeginAlone_33 rfl hl (by decide) rfl (fun ls hl => ?_)
        refine lv_iload_n hx hb dX11_wordsThatBeginAlone_34 rfl (lv_at hl 0 rfl) ?_
        refine lv_aload_n hx hb dX11_wordsThatBeginAlone_35 rfl (lv_at hl 1 rfl) ?_
        refine va_get (D := D.1) (ci := 8) (v := .ref a0_now) (C := RX11) (T := TX11) (N := 9) hx hb hts hwX11 hown hK.1 hP 0 rfl rfl 0 (by decide) l12 (fun _ h9 => h9) rfl dX11_wordsThatBeginAlone_36 ?_
        refine va_get (D := D.1) (ci := 6) (v := .ref a0_now_dictionary) (C := RX9) (T := TX9) (N := 6) hx hb hts hwX9 hown hK.1 hP 1 rfl rfl 1 (by decide) l112 (fun _ h9 => h9) rfl dX11_wordsThatBeginAlone_39 ?_
        refine lv_iload_n hx hb dX11_wordsThatBeginAlone_42 rfl (lv_at hl 3 rfl) ?_
        refine lv_iconst (v := 1) hx hb dX11_wordsThatBeginAlone_43 (by decide) ?_
        refine lv_isub hx hb dX11_wordsThatBeginAlone_44 ?_
        obtain ⟨r5, hr5, hf⟩ := bd hf
        refine zVl (As := [.int (x2 - (1 : Int32))]) (rest := [.int r4]) (ci := 5) (q0 := 0) (wn := [(a0, .inr (8, [.ref a0_now, .ref a0_images, .ref a0_merges, .ref a0_cut, .ref a0_index, .ref a0_otherIndex, .ref a0_readWords, .ref a0_triedPattern, .ref a0_alike])), (a0_now, .inr (6, [.ref a0_now_tape, .ref a0_now_dictionary, .ref a0_now_coming, .ref a0_now_pattern, .ref a0_now_fault, .int v0_now_edits])), (a0_now_dictionary, .inr (5, [.ref a0_now_dictionary_rows, .int v0_now_dictionary_size])), (a0_now_dictionary_rows, .inl (D.2 2, 40, .inr (.inl g0_now_dictionary_rows)))]) ⟨hx, hb, hml, hown, hts⟩ (mX7_at l D a0_now_dictionary a0_now_dictionary_rows H.size 40 v0_now_dictionary_size g0_now_dictionary_rows (x2 - (1 : Int32)) r5 hr5) (cwV 1 hts gX11_wordsThatBeginAlone_X7_at rfl rfl rfl (by decide +kernel) ⟨Nat.le_of_ble_eq_true rfl, Nat.le_of_ble_eq_true rfl⟩) hK hP hD hS hA [2, 3] [0, 1] [0, 1, 2, 3] rfl (by decide) rfl (by decide) (by decide) rfl (by decide) rfl rfl rfl hl.1 rfl (Nat.le_of_ble_eq_true rfl) dX11_wordsThatBeginAlone_45 ⟨Nat.zero_le _, Nat.zero_le _⟩ (fun H locs hP hD hS => ?_)
        refine lv_iconst (v := 0) hx hb dX11_wordsThatBeginAlone_48 (by decide) ?_
        obtain ⟨r6, hr6, hf⟩ := bd hf
        refine zSi (As := [.long r5, .int (0 : Int32)]) (rest := [.int r4]) (wn := [(a0, .inr (8, [.ref a0_now, .ref a0_images, .ref a0_merges, .ref a0_cut, .ref a0_index, .ref a0_otherIndex, .ref a0_readWords, .ref a0_triedPattern, .ref a0_alike])), (a0_now, .inr (6, [.ref a0_now_tape, .ref a0_now_dictionary, .ref a0_now_coming, .ref a0_now_pattern, .ref a0_now_fault, .int v0_now_edits])), (a0_now_dictionary, .inr (5, [.ref a0_now_dictionary_rows, .int v0_now_dictionary_size])), (a0_now_dictionary_rows, .inl (D.2 2, 40, .inr (.inl g0_now_dictionary_rows)))]) ⟨hx, hb, hml, hown, hts⟩ (mX8_codeAt l D H.size r5 (0 : Int32) r6 hr6) (va_cwS 2 hts gX11_wordsThatBeginAlone_X8_codeAt rfl rfl rfl (by decide +kernel) ⟨Nat.le_of_ble_eq_true rfl, Nat.le_of_ble_eq_true rfl⟩) hK hP hD hS hA [] [0, 1, 2, 3] [0, 1, 2, 3] rfl (by decide) rfl (by decide) (by decide) rfl (by decide) rfl hl.1 rfl (Nat.le_of_ble_eq_true rfl) dX11_wordsThatBeginAlone_49 ⟨Nat.zero_le _, Nat.zero_le _⟩ (fun H locs hP hD hS => ?_)
        refine lv_icmp_eq (tgt := 79) hx hb dX11_wordsThatBeginAlone_52 (by decide) (fun c_7 => ?_) (fun c_7 => ?_)
        · replace hf := ip c_7 hf
          refine lv_iinc (v := (x2 + (1 : Int32))) (lv' := [(2, .int (x2 + (1 : Int32))), (3, .int r4), (0, .ref a0), (1, .int x1)]) hx hb dX11_wordsThatBeginAlone_79 hl (k := 3) rfl rfl (by decide) rfl (fun ls hl => ?_)
          refine lv_goto (tgt := 4) hx hb dX11_wordsThatBeginAlone_82 (by decide) ?_
          exact ih x1 (x2 + (1 : Int32)) H locs ls hf hP hD hS (lv_sub hl [2, 3, 0] rfl)
        · replace hf := im c_7 hf
          refine lv_iload_n hx hb dX11_wordsThatBeginAlone_55 rfl (lv_at hl 0 rfl) ?_
          refine lv_aload_n hx hb dX11_wordsThatBeginAlone_56 rfl (lv_at hl 1 rfl) ?_
          refine va_get (D := D.1) (ci := 8) (v := .ref a0_now) (C := RX11) (T := TX11) (N := 9) hx hb hts hwX11 hown hK.1 hP 0 rfl rfl 0 (by decide) l12 (fun _ h9 => h9) rfl dX11_wordsThatBeginAlone_57 ?_
          refine va_get (D := D.1) (ci := 6) (v := .ref a0_now_dictionary) (C := RX9) (T := TX9) (N := 6) hx hb hts hwX9 hown hK.1 hP 1 rfl rfl 1 (by decide) l112 (fun _ h9 => h9) rfl dX11_wordsThatBeginAlone_60 ?_
          refine lv_iload_n hx hb dX11_wordsThatBeginAlone_63 rfl (lv_at hl 3 rfl) ?_
          refine lv_iconst (v := 1) hx hb dX11_wordsThatBeginAlone_64 (by decide) ?_
          refine lv_iadd hx hb dX11_wordsThatBeginAlone_65 ?_
          obtain ⟨r8, hr8, hf⟩ := bd hf
          refine zVl (As := [.int (x2 + (1 : Int32))]) (rest := [.int r4]) (ci := 5) (q0 := 0) (wn := [(a0, .inr (8, [.ref a0_now, .ref a0_images, .ref a0_merges, .ref a0_cut, .ref a0_index, .ref a0_otherIndex, .ref a0_readWords, .ref a0_triedPattern, .ref a0_alike])), (a0_now, .inr (6, [.ref a0_now_tape, .ref a0_now_dictionary, .ref a0_now_coming, .ref a0_now_pattern, .ref a0_now_fault, .int v0_now_edits])), (a0_now_dictionary, .inr (5, [.ref a0_now_dictionary_rows, .int v0_now_dictionary_size])), (a0_now_dictionary_rows, .inl (D.2 2, 40, .inr (.inl g0_now_dictionary_rows)))]) ⟨hx, hb, hml, hown, hts⟩ (mX7_at l D a0_now_dictionary a0_now_dictionary_rows H.size 40 v0_now_dictionary_size g0_now_dictionary_rows (x2 + (1 : Int32)) r8 hr8) (cwV 1 hts gX11_wordsThatBeginAlone_X7_at rfl rfl rfl (by decide +kernel) ⟨Nat.le_of_ble_eq_true rfl, Nat.le_of_ble_eq_true rfl⟩) hK hP hD hS hA [2, 3] [0, 1] [0, 1, 2, 3] rfl (by decide) rfl (by decide) (by decide) rfl (by decide) rfl rfl rfl hl.1 rfl (Nat.le_of_ble_eq_true rfl) dX11_wordsThatBeginAlone_66 ⟨Nat.zero_le _, Nat.zero_le _⟩ (fun H locs hP hD hS => ?_)
          refine lv_iconst (v := 0) hx hb dX11_wordsThatBeginAlone_69 (by decide) ?_
          obtain ⟨r9, hr9, hf⟩ := bd hf
          refine zSi (As := [.long r8, .int (0 : Int32)]) (rest := [.int r4]) (wn := [(a0, .inr (8, [.ref a0_now, .ref a0_images, .ref a0_merges, .ref a0_cut, .ref a0_index, .ref a0_otherIndex, .ref a0_readWords, .ref a0_triedPattern, .ref a0_alike])), (a0_now, .inr (6, [.ref a0_now_tape, .ref a0_now_dictionary, .ref a0_now_coming, .ref a0_now_pattern, .ref a0_now_fault, .int v0_now_edits])), (a0_now_dictionary, .inr (5, [.ref a0_now_dictionary_rows, .int v0_now_dictionary_size])), (a0_now_dictionary_rows, .inl (D.2 2, 40, .inr (.inl g0_now_dictionary_rows)))]) ⟨hx, hb, hml, hown, hts⟩ (mX8_codeAt l D H.size r8 (0 : Int32) r9 hr9) (va_cwS 2 hts gX11_wordsThatBeginAlone_X8_codeAt rfl rfl rfl (by decide +kernel) ⟨Nat.le_of_ble_eq_true rfl, Nat.le_of_ble_eq_true rfl⟩) hK hP hD hS hA [] [0, 1, 2, 3] [0, 1, 2, 3] rfl (by decide) rfl (by decide) (by decide) rfl (by decide) rfl hl.1 rfl (Nat.le_of_ble_eq_true rfl) dX11_wordsThatBeginAlone_70 ⟨Nat.zero_le _, Nat.zero_le _⟩ (fun H locs hP hD hS => ?_)
          refine lv_icmp_eq (tgt := 79) hx hb dX11_wordsThatBeginAlone_73 (by decide) (fun c_10 => ?_) (fun c_10 => ?_)
          · replace hf := ip c_10 hf
            refine lv_iinc (v := (x2 + (1 : Int32))) (lv' := [(2, .int (x2 + (1 : Int32))), (3, .int r4), (0, .ref a0), (1, .int x1)]) hx hb dX11_wordsThatBeginAlone_79 hl (k := 3) rfl rfl (by decide) rfl (fun ls hl => ?_)
            refine lv_goto (tgt := 4) hx hb dX11_wordsThatBeginAlone_82 (by decide) ?_
            exact ih x1 (x2 + (1 : Int32)) H locs ls hf hP hD hS (lv_sub hl [2, 3, 0] rfl)
          · replace hf := im c_10 hf
            refine lv_iinc (v := (x1 + (1 : Int32))) (lv' := [(1, .int (x1 + (1 : Int32))), (3, .int r4), (0, .ref a0), (2, .int x2)]) hx hb dX11_wordsThatBeginAlone_76 hl (k := 2) rfl rfl (by decide) rfl (fun ls hl => ?_)
            refine lv_iinc (v := (x2 + (1 : Int32))) (lv' := [(2, .int (x2 + (1 : Int32))), (1, .int (x1 + (1 : Int32))), (3, .int r4), (0, .ref a0)]) hx hb dX11_wordsThatBeginAlone_79 hl (k := 3) rfl rfl (by decide) rfl (fun ls hl => ?_)
            refine lv_goto (tgt := 4) hx hb dX11_wordsThatBeginAlone_82 (by decide) ?_
            exact ih (x1 + (1 : Int32)) (x2 + (1 : Int32)) H locs ls hf hP hD hS (lv_sub hl [3, 1, 0] rfl)
  unfold fX11_wordsThatBeginAlone at hf
  refine lv_iconst (v := 0) hx hb dX11_wordsThatBeginAlone_0 (by decide) ?_
  refine lv_istore_n (lv' := [(1, .int (0 : Int32)), (0, .ref a0)]) hx hb dX11_wordsThatBeginAlone_1 rfl hl (by decide) rfl (fun ls hl => ?_)
  refine lv_iconst (v := 0) hx hb dX11_wordsThatBeginAlone_2 (by decide) ?_
  refine lv_istore_n (lv' := [(2, .int (0 : Int32)), (1, .int (0 : Int32)), (0, .ref a0)]) hx hb dX11_wordsThatBeginAlone_3 rfl hl (by decide) rfl (fun ls hl => ?_)
  exact k4 N (0 : Int32) (0 : Int32) H locs ls hf hP hD hS (lv_sub hl [2, 1, 0] rfl)
def fX11_countMore (N : Nat) (v0_now_tape_size : Int32) (v0_now_dictionary_size : Int32) (g0_now_dictionary_rows : Nat → Int64) (v0_now_pattern_size : Int32) (g0_now_pattern_signs : Nat → Int32) (v0_merges_size : Int32) (v0_index_turns_size : Int32) (g0_alike : Nat → Int32) (p1 : Int32) : Option (Int32 × (Nat → Int32)) :=
  if (p1).toInt < 11 ∨ 16 < (p1).toInt then
    some ((-1 : Int32), g0_alike)
  else if p1 = 11 then
    Option.bind (fX11_answersOf N 40 v0_now_dictionary_size g0_now_dictionary_rows v0_now_pattern_size g0_now_pattern_signs) fun r3 =>
    Option.bind (fX11_stem N v0_now_dictionary_size g0_now_dictionary_rows r3) fun r4 =>
    some (r4, g0_alike)
  else if p1 = 12 then
    Option.bind (fX11_answersOf N 40 v0_now_dictionary_size g0_now_dictionary_rows v0_now_pattern_size g0_now_pattern_signs) fun r6 =>
    Option.bind (fX11_placeToAsk N v0_now_dictionary_size g0_now_dictionary_rows g0_alike r6) fun r7 =>
    some (r7.1, r7.2)
  else if p1 = 13 then
    Option.bind (fX4_size v0_merges_size) fun r9 =>
    some (r9, g0_alike)
  else if p1 = 14 then
    Option.bind (fX10_size v0_now_tape_size) fun r11 =>
    some (r11, g0_alike)
  else if p1 = 15 then
    Option.bind (fX3_size v0_index_turns_size) fun r13 =>
    Option.bind (fX7_size v0_now_dictionary_size) fun r14 =>
    some ((r13 - r14), g0_alike)
  else if p1 = 16 then
    Option.bind (fX11_wordsThatBeginAlone N v0_now_dictionary_size g0_now_dictionary_rows) fun r16 =>
    some (r16, g0_alike)
  else none
set_option maxHeartbeats 4000000 in
set_option maxRecDepth 100000 in
theorem mX11_countMore (l : Launch) (D : zG) (a0 : Nat) (a0_now : Nat) (a0_images : Nat) (a0_merges : Nat) (a0_cut : Nat) (a0_index : Nat) (a0_otherIndex : Nat) (a0_readWords : Nat) (a0_triedPattern : Nat) (a0_alike : Nat) (a0_now_tape : Nat) (a0_now_dictionary : Nat) (a0_now_coming : Nat) (a0_now_pattern : Nat) (a0_now_fault : Nat) (a0_now_tape_bytes : Nat) (a0_now_dictionary_rows : Nat) (a0_now_pattern_signs : Nat) (a0_merges_before : Nat) (a0_index_turns : Nat) (a0_index_turns_rows : Nat) (sz : Nat)  (v0_now_edits : Int32) (v0_now_tape_size : Int32) (v0_now_dictionary_size : Int32) (g0_now_dictionary_rows : Nat → Int64) (v0_now_pattern_size : Int32) (g0_now_pattern_signs : Nat → Int32) (v0_merges_size : Int32) (v0_index_turns_size : Int32) (g0_alike : Nat → Int32) (p1 : Int32) (N : Nat) (res : Int32 × (Nat → Int32)) (hf : fX11_countMore N v0_now_tape_size v0_now_dictionary_size g0_now_dictionary_rows v0_now_pattern_size g0_now_pattern_signs v0_merges_size v0_index_turns_size g0_alike p1 = some res) : Met l yX11_countMore wsX11_countMore ({ frames := 5, cells := 0, slots := 0, locals := 119 } : Room) (va_Pc [.ref a0, .int p1] (zW D sz [(a0, .inr (8, [.ref a0_now, .ref a0_images, .ref a0_merges, .ref a0_cut, .ref a0_index, .ref a0_otherIndex, .ref a0_readWords, .ref a0_triedPattern, .ref a0_alike])), (a0_now, .inr (6, [.ref a0_now_tape, .ref a0_now_dictionary, .ref a0_now_coming, .ref a0_now_pattern, .ref a0_now_fault, .int v0_now_edits])), (a0_now_tape, .inr (7, [.ref a0_now_tape_bytes, .int v0_now_tape_size])), (a0_now_dictionary, .inr (5, [.ref a0_now_dictionary_rows, .int v0_now_dictionary_size])), (a0_now_dictionary_rows, .inl (D.2 2, 40, .inr (.inl g0_now_dictionary_rows))), (a0_now_pattern, .inr (4, [.ref a0_now_pattern_signs, .int v0_now_pattern_size])), (a0_now_pattern_signs, .inl (D.2 1, 12, .inl g0_now_pattern_signs)), (a0_merges, .inr (3, [.ref a0_merges_before, .int v0_merges_size])), (a0_index, .inr (2, [.ref a0_index_turns])), (a0_index_turns, .inr (5, [.ref a0_index_turns_rows, .int v0_index_turns_size])), (a0_alike, .inl (D.2 1, 32, .inl g0_alike))])) (va_Qi (fun r (_ : Unit) => r = res.1) (fun _ => zB D (va_A [(a0, .inr (8, [.ref a0_now, .ref a0_images, .ref a0_merges, .ref a0_cut, .ref a0_index, .ref a0_otherIndex, .ref a0_readWords, .ref a0_triedPattern, .ref a0_alike])), (a0_now, .inr (6, [.ref a0_now_tape, .ref a0_now_dictionary, .ref a0_now_coming, .ref a0_now_pattern, .ref a0_now_fault, .int v0_now_edits])), (a0_now_tape, .inr (7, [.ref a0_now_tape_bytes, .int v0_now_tape_size])), (a0_now_dictionary, .inr (5, [.ref a0_now_dictionary_rows, .int v0_now_dictionary_size])), (a0_now_dictionary_rows, .inl (D.2 2, 40, .inr (.inl g0_now_dictionary_rows))), (a0_now_pattern, .inr (4, [.ref a0_now_pattern_signs, .int v0_now_pattern_size])), (a0_now_pattern_signs, .inl (D.2 1, 12, .inl g0_now_pattern_signs)), (a0_merges, .inr (3, [.ref a0_merges_before, .int v0_merges_size])), (a0_index, .inr (2, [.ref a0_index_turns])), (a0_index_turns, .inr (5, [.ref a0_index_turns_rows, .int v0_index_turns_size])), (a0_alike, .inl (D.2 1, 32, .inl g0_alike))] sz) [(a0, .inr (8, [.ref a0_now, .ref a0_images, .ref a0_merges, .ref a0_cut, .ref a0_index, .ref a0_otherIndex, .ref a0_readWords, .ref a0_triedPattern, .ref a0_alike])), (a0_now, .inr (6, [.ref a0_now_tape, .ref a0_now_dictionary, .ref a0_now_coming, .ref a0_now_pattern, .ref a0_now_fault, .int v0_now_edits])), (a0_now_tape, .inr (7, [.ref a0_now_tape_bytes, .int v0_now_tape_size])), (a0_now_dictionary, .inr (5, [.ref a0_now_dictionary_rows, .int v0_now_dictionary_size])), (a0_now_dictionary_rows, .inl (D.2 2, 40, .inr (.inl g0_now_dictionary_rows))), (a0_now_pattern, .inr (4, [.ref a0_now_pattern_signs, .int v0_now_pattern_size])), (a0_now_pattern_signs, .inl (D.2 1, 12, .inl g0_now_pattern_signs)), (a0_merges, .inr (3, [.ref a0_merges_before, .int v0_merges_size])), (a0_index, .inr (2, [.ref a0_index_turns])), (a0_index_turns, .inr (5, [.ref a0_index_turns_rows, .int v0_index_turns_size])), (a0_alike, .inl (D.2 1, 32, .inl res.2))]) (va_A [(a0, .inr (8, [.ref a0_now, .ref a0_images, .ref a0_merges, .ref a0_cut, .ref a0_index, .ref a0_otherIndex, .ref a0_readWords, .ref a0_triedPattern, .ref a0_alike])), (a0_now, .inr (6, [.ref a0_now_tape, .ref a0_now_dictionary, .ref a0_now_coming, .ref a0_now_pattern, .ref a0_now_fault, .int v0_now_edits])), (a0_now_tape, .inr (7, [.ref a0_now_tape_bytes, .int v0_now_tape_size])), (a0_now_dictionary, .inr (5, [.ref a0_now_dictionary_rows, .int v0_now_dictionary_size])), (a0_now_dictionary_rows, .inl (D.2 2, 40, .inr (.inl g0_now_dictionary_rows))), (a0_now_pattern, .inr (4, [.ref a0_now_pattern_signs, .int v0_now_pattern_size])), (a0_now_pattern_signs, .inl (D.2 1, 12, .inl g0_now_pattern_signs)), (a0_merges, .inr (3, [.ref a0_merges_before, .int v0_merges_size])), (a0_index, .inr (2, [.ref a0_index_turns])), (a0_index_turns, .inr (5, [.ref a0_index_turns_rows, .int v0_index_turns_size])), (a0_alike, .inl (D.2 1, 32, .inl g0_alike))] sz)) 0 0 (va_A [(a0, .inr (8, [.ref a0_now, .ref a0_images, .ref a0_merges, .ref a0_cut, .ref a0_index, .ref a0_otherIndex, .ref a0_readWords, .ref a0_triedPattern, .ref a0_alike])), (a0_now, .inr (6, [.ref a0_now_tape, .ref a0_now_dictionary, .ref a0_now_coming, .ref a0_now_pattern, .ref a0_now_fault, .int v0_now_edits])), (a0_now_tape, .inr (7, [.ref a0_now_tape_bytes, .int v0_now_tape_size])), (a0_now_dictionary, .inr (5, [.ref a0_now_dictionary_rows, .int v0_now_dictionary_size])), (a0_now_dictionary_rows, .inl (D.2 2, 40, .inr (.inl g0_now_dictionary_rows))), (a0_now_pattern, .inr (4, [.ref a0_now_pattern_signs, .int v0_now_pattern_size])), (a0_now_pattern_signs, .inl (D.2 1, 12, .inl g0_now_pattern_signs)), (a0_merges, .inr (3, [.ref a0_merges_before, .int v0_merges_size])), (a0_index, .inr (2, [.ref a0_index_turns])), (a0_index_turns, .inr (5, [.ref a0_index_turns_rows, .int v0_index_turns_size])), (a0_alike, .inl (D.2 1, 32, .inl g0_alike))] sz) := by
  refine Met.ofW (cc := cX11_countMore) (maxL := 2) (ret := (some .int)) (by decide) rfl ?_
  intro p e s m args below meth c s₁ B hml hv
  obtain ⟨rfl, hsz, hP, hK, hD0⟩ := hv
  have hx := B.exec
  have hb := B.bytes
  have hr := B.returns
  have hts := atoms_spec (ws := wsX11_countMore) B.pre
  have hown : s.vm.findClass RX11 = some m.cls := findClass_of_methodNamed B.named
  have hlocks := B.notSynchronized
  subst hsz
  have hD := hD0.self (sz := s.heap.size)
  generalize hAe : va_A [(a0, .inr (8, [.ref a0_now, .ref a0_images, .ref a0_merges, .ref a0_cut, .ref a0_index, .ref a0_otherIndex, .ref a0_readWords, .ref a0_triedPattern, .ref a0_alike])), (a0_now, .inr (6, [.ref a0_now_tape, .ref a0_now_dictionary, .ref a0_now_coming, .ref a0_now_pattern, .ref a0_now_fault, .int v0_now_edits])), (a0_now_tape, .inr (7, [.ref a0_now_tape_bytes, .int v0_now_tape_size])), (a0_now_dictionary, .inr (5, [.ref a0_now_dictionary_rows, .int v0_now_dictionary_size])), (a0_now_dictionary_rows, .inl (D.2 2, 40, .inr (.inl g0_now_dictionary_rows))), (a0_now_pattern, .inr (4, [.ref a0_now_pattern_signs, .int v0_now_pattern_size])), (a0_now_pattern_signs, .inl (D.2 1, 12, .inl g0_now_pattern_signs)), (a0_merges, .inr (3, [.ref a0_merges_before, .int v0_merges_size])), (a0_index, .inr (2, [.ref a0_index_turns])), (a0_index_turns, .inr (5, [.ref a0_index_turns_rows, .int v0_index_turns_size])), (a0_alike, .inl (D.2 1, 32, .inl g0_alike))] s.heap.size = A at hD ⊢
  have hA : ∀ q : Nat, s.heap.size ≤ q → A q := fun q h => by rw [← hAe]; exact Or.inr h
  have l12 := zat hts 1 (w := .fieldLink RX11 12 "TurnedWords" "now" "LTurnedWords$State;") rfl
  have l112 := zat hts 2 (w := .fieldLink RX11 112 "TurnedWords$State" "dictionary" "LTurnedWords$Rising;") rfl
  have l34 := zat hts 3 (w := .fieldLink RX11 34 "TurnedWords$State" "pattern" "LTurnedWords$Pattern;") rfl
  have l23 := zat hts 4 (w := .fieldLink RX11 23 "TurnedWords" "merges" "LTurnedWords$Merges;") rfl
  have l73 := zat hts 5 (w := .fieldLink RX11 73 "TurnedWords$State" "tape" "LTurnedWords$Tape;") rfl
  have l45 := zat hts 6 (w := .fieldLink RX11 45 "TurnedWords" "index" "LTurnedWords$Index;") rfl
  have hwX11 : ∀ w ∈ u_ws RX11 TX11 9, w ∈ wsX11_countMore := fun w h => List.mem_cons_of_mem _ (List.mem_append_left _ (List.mem_append_left _ (List.mem_append_left _ (List.mem_append_left _ (List.mem_append_left _ (List.mem_append_left _ (List.mem_append_right _ h)))))))
  have hwX9 : ∀ w ∈ u_ws RX9 TX9 6, w ∈ wsX11_countMore := fun w h => List.mem_cons_of_mem _ (List.mem_append_left _ (List.mem_append_left _ (List.mem_append_left _ (List.mem_append_left _ (List.mem_append_left _ (List.mem_append_right _ h))))))
  have hl := lv_entry ([.ref a0, .int p1]) (n := 2) (Nat.le_of_ble_eq_true rfl)
  rw [lg_entry_eq]
  generalize (lg_sl ([.ref a0, .int p1]) ++ List.replicate (2 - (lg_sl ([.ref a0, .int p1])).length) Slot.unset).toArray = ls at hl ⊢
  have hl : lv_has ls 2 [(0, .ref a0), (1, .int p1)] := hl
  refine zStart (A := A) hP (fun Q0 H locs hQ hP hS => ?_)
  unfold fX11_countMore at hf
  refine lv_iload_n hx hb dX11_countMore_0 rfl (lv_at hl 1 rfl) ?_
  by_cases c_1 : (p1).toInt < 11 ∨ 16 < (p1).toInt
  · replace hf := ip c_1 hf
    refine lv_tableOut (tgt := 127) hx hb dX11_countMore_1 c_1 (by decide) ?_
    refine lv_iconst (v := -1) hx hb dX11_countMore_127 (by decide) ?_
    have he := Option.some.inj hf
    rw [hQ]
    exact W.iret (v := (-1 : Int32)) hx hb hr (fun t ht hW => by rw [← he]; exact ⟨⟨(-1 : Int32), (), rfl, rfl, by rw [ht]; exact hP, hD⟩, hS.F ht⟩) hS.2.2 dX11_countMore_128
  · replace hf := im c_1 hf
    by_cases c_2 : p1 = 11
    · replace hf := ip c_2 hf
      refine lv_tableIn (tgt := 40) hx hb dX11_countMore_1 (by rw [c_2]; decide) (by rw [c_2]; decide) (off := 39) (by rw [c_2]; rfl) (by decide) ?_
      refine lv_aload_n hx hb dX11_countMore_40 rfl (lv_at hl 0 rfl) ?_
      refine lv_aload_n hx hb dX11_countMore_41 rfl (lv_at hl 0 rfl) ?_
      refine va_get (D := D.1) (ci := 8) (v := .ref a0_now) (C := RX11) (T := TX11) (N := 9) hx hb hts hwX11 hown hK.1 hP 0 rfl rfl 0 (by decide) l12 (fun _ h9 => h9) rfl dX11_countMore_42 ?_
      refine va_get (D := D.1) (ci := 6) (v := .ref a0_now_dictionary) (C := RX9) (T := TX9) (N := 6) hx hb hts hwX9 hown hK.1 hP 1 rfl rfl 1 (by decide) l112 (fun _ h9 => h9) rfl dX11_countMore_45 ?_
      refine lv_aload_n hx hb dX11_countMore_48 rfl (lv_at hl 0 rfl) ?_
      refine va_get (D := D.1) (ci := 8) (v := .ref a0_now) (C := RX11) (T := TX11) (N := 9) hx hb hts hwX11 hown hK.1 hP 0 rfl rfl 0 (by decide) l12 (fun _ h9 => h9) rfl dX11_countMore_49 ?_
      refine va_get (D := D.1) (ci := 6) (v := .ref a0_now_pattern) (C := RX9) (T := TX9) (N := 6) hx hb hts hwX9 hown hK.1 hP 1 rfl rfl 3 (by decide) l34 (fun _ h9 => h9) rfl dX11_countMore_52 ?_
      obtain ⟨r3, hr3, hf⟩ := bd hf
      refine zSl (As := [.ref a0_now_dictionary, .ref a0_now_pattern]) (rest := [.ref a0]) (wn := [(a0, .inr (8, [.ref a0_now, .ref a0_images, .ref a0_merges, .ref a0_cut, .ref a0_index, .ref a0_otherIndex, .ref a0_readWords, .ref a0_triedPattern, .ref a0_alike])), (a0_now, .inr (6, [.ref a0_now_tape, .ref a0_now_dictionary, .ref a0_now_coming, .ref a0_now_pattern, .ref a0_now_fault, .int v0_now_edits])), (a0_now_tape, .inr (7, [.ref a0_now_tape_bytes, .int v0_now_tape_size])), (a0_now_dictionary, .inr (5, [.ref a0_now_dictionary_rows, .int v0_now_dictionary_size])), (a0_now_dictionary_rows, .inl (D.2 2, 40, .inr (.inl g0_now_dictionary_rows))), (a0_now_pattern, .inr (4, [.ref a0_now_pattern_signs, .int v0_now_pattern_size])), (a0_now_pattern_signs, .inl (D.2 1, 12, .inl g0_now_pattern_signs)), (a0_merges, .inr (3, [.ref a0_merges_before, .int v0_merges_size])), (a0_index, .inr (2, [.ref a0_index_turns])), (a0_index_turns, .inr (5, [.ref a0_index_turns_rows, .int v0_index_turns_size])), (a0_alike, .inl (D.2 1, 32, .inl g0_alike))]) ⟨hx, hb, hml, hown, hts⟩ (mX11_answersOf l D a0_now_dictionary a0_now_dictionary_rows a0_now_pattern a0_now_pattern_signs H.size 40 v0_now_dictionary_size g0_now_dictionary_rows v0_now_pattern_size g0_now_pattern_signs N r3 hr3) (va_cwS 2 hts gX11_countMore_X11_answersOf rfl rfl rfl (by decide +kernel) ⟨Nat.le_of_ble_eq_true rfl, Nat.le_of_ble_eq_true rfl⟩) hK hP hD hS hA [3, 4, 5, 6] [0, 1, 2, 7, 8, 9, 10] [0, 1, 2, 7, 8, 9, 10, 3, 4, 5, 6] rfl (by decide) rfl (by decide) (by decide) rfl (by decide) rfl hl.1 rfl (Nat.le_of_ble_eq_true rfl) dX11_countMore_55 ⟨Nat.zero_le _, Nat.zero_le _⟩ (fun H locs hP hD hS => ?_)
      obtain ⟨r4, hr4, hf⟩ := bd hf
      refine zVi (As := [.long r3]) (rest := []) (ci := 8) (q0 := 0) (wn := [(a0, .inr (8, [.ref a0_now, .ref a0_images, .ref a0_merges, .ref a0_cut, .ref a0_index, .ref a0_otherIndex, .ref a0_readWords, .ref a0_triedPattern, .ref a0_alike])), (a0_now, .inr (6, [.ref a0_now_tape, .ref a0_now_dictionary, .ref a0_now_coming, .ref a0_now_pattern, .ref a0_now_fault, .int v0_now_edits])), (a0_now_tape, .inr (7, [.ref a0_now_tape_bytes, .int v0_now_tape_size])), (a0_now_dictionary, .inr (5, [.ref a0_now_dictionary_rows, .int v0_now_dictionary_size])), (a0_now_dictionary_rows, .inl (D.2 2, 40, .inr (.inl g0_now_dictionary_rows))), (a0_now_pattern, .inr (4, [.ref a0_now_pattern_signs, .int v0_now_pattern_size])), (a0_now_pattern_signs, .inl (D.2 1, 12, .inl g0_now_pattern_signs)), (a0_merges, .inr (3, [.ref a0_merges_before, .int v0_merges_size])), (a0_index, .inr (2, [.ref a0_index_turns])), (a0_index_turns, .inr (5, [.ref a0_index_turns_rows, .int v0_index_turns_size])), (a0_alike, .inl (D.2 1, 32, .inl g0_alike))]) ⟨hx, hb, hml, hown, hts⟩ (mX11_stem l D a0 a0_now a0_images a0_merges a0_cut a0_index a0_otherIndex a0_readWords a0_triedPattern a0_alike a0_now_tape a0_now_dictionary a0_now_coming a0_now_pattern a0_now_fault a0_now_dictionary_rows H.size v0_now_edits v0_now_dictionary_size g0_now_dictionary_rows r3 N r4 hr4) (cwV 1 hts gX11_countMore_X11_stem rfl rfl rfl (by decide +kernel) ⟨Nat.le_of_ble_eq_true rfl, Nat.le_of_ble_eq_true rfl⟩) hK hP hD hS hA [0, 1, 3, 4] [2, 5, 6, 7, 8, 9, 10] [7, 8, 0, 9, 10, 1, 2, 3, 4, 5, 6] rfl (by decide) rfl (by decide) (by decide) rfl (by decide) rfl rfl rfl hl.1 rfl (Nat.le_of_ble_eq_true rfl) dX11_countMore_58 ⟨Nat.zero_le _, Nat.zero_le _⟩ (fun H locs hP hD hS => ?_)
      have he := Option.some.inj hf
      rw [hQ]
      exact W.iret (v := r4) hx hb hr (fun t ht hW => by rw [← he]; exact ⟨⟨r4, (), rfl, rfl, by rw [ht]; exact hP, hD⟩, hS.F ht⟩) hS.2.2 dX11_countMore_61
    replace hf := im c_2 hf
    by_cases c_5 : p1 = 12
    · replace hf := ip c_5 hf
      refine lv_tableIn (tgt := 62) hx hb dX11_countMore_1 (by rw [c_5]; decide) (by rw [c_5]; decide) (off := 61) (by rw [c_5]; rfl) (by decide) ?_
      refine lv_aload_n hx hb dX11_countMore_62 rfl (lv_at hl 0 rfl) ?_
      refine lv_aload_n hx hb dX11_countMore_63 rfl (lv_at hl 0 rfl) ?_
      refine va_get (D := D.1) (ci := 8) (v := .ref a0_now) (C := RX11) (T := TX11) (N := 9) hx hb hts hwX11 hown hK.1 hP 0 rfl rfl 0 (by decide) l12 (fun _ h9 => h9) rfl dX11_countMore_64 ?_
      refine va_get (D := D.1) (ci := 6) (v := .ref a0_now_dictionary) (C := RX9) (T := TX9) (N := 6) hx hb hts hwX9 hown hK.1 hP 1 rfl rfl 1 (by decide) l112 (fun _ h9 => h9) rfl dX11_countMore_67 ?_
      refine lv_aload_n hx hb dX11_countMore_70 rfl (lv_at hl 0 rfl) ?_
      refine va_get (D := D.1) (ci := 8) (v := .ref a0_now) (C := RX11) (T := TX11) (N := 9) hx hb hts hwX11 hown hK.1 hP 0 rfl rfl 0 (by decide) l12 (fun _ h9 => h9) rfl dX11_countMore_71 ?_
      refine va_get (D := D.1) (ci := 6) (v := .ref a0_now_pattern) (C := RX9) (T := TX9) (N := 6) hx hb hts hwX9 hown hK.1 hP 1 rfl rfl 3 (by decide) l34 (fun _ h9 => h9) rfl dX11_countMore_74 ?_
      obtain ⟨r6, hr6, hf⟩ := bd hf
      refine zSl (As := [.ref a0_now_dictionary, .ref a0_now_pattern]) (rest := [.ref a0]) (wn := [(a0, .inr (8, [.ref a0_now, .ref a0_images, .ref a0_merges, .ref a0_cut, .ref a0_index, .ref a0_otherIndex, .ref a0_readWords, .ref a0_triedPattern, .ref a0_alike])), (a0_now, .inr (6, [.ref a0_now_tape, .ref a0_now_dictionary, .ref a0_now_coming, .ref a0_now_pattern, .ref a0_now_fault, .int v0_now_edits])), (a0_now_tape, .inr (7, [.ref a0_now_tape_bytes, .int v0_now_tape_size])), (a0_now_dictionary, .inr (5, [.ref a0_now_dictionary_rows, .int v0_now_dictionary_size])), (a0_now_dictionary_rows, .inl (D.2 2, 40, .inr (.inl g0_now_dictionary_rows))), (a0_now_pattern, .inr (4, [.ref a0_now_pattern_signs, .int v0_now_pattern_size])), (a0_now_pattern_signs, .inl (D.2 1, 12, .inl g0_now_pattern_signs)), (a0_merges, .inr (3, [.ref a0_merges_before, .int v0_merges_size])), (a0_index, .inr (2, [.ref a0_index_turns])), (a0_index_turns, .inr (5, [.ref a0_index_turns_rows, .int v0_index_turns_size])), (a0_alike, .inl (D.2 1, 32, .inl g0_alike))]) ⟨hx, hb, hml, hown, hts⟩ (mX11_answersOf l D a0_now_dictionary a0_now_dictionary_rows a0_now_pattern a0_now_pattern_signs H.size 40 v0_now_dictionary_size g0_now_dictionary_rows v0_now_pattern_size g0_now_pattern_signs N r6 hr6) (va_cwS 2 hts gX11_countMore_X11_answersOf rfl rfl rfl (by decide +kernel) ⟨Nat.le_of_ble_eq_true rfl, Nat.le_of_ble_eq_true rfl⟩) hK hP hD hS hA [3, 4, 5, 6] [0, 1, 2, 7, 8, 9, 10] [0, 1, 2, 7, 8, 9, 10, 3, 4, 5, 6] rfl (by decide) rfl (by decide) (by decide) rfl (by decide) rfl hl.1 rfl (Nat.le_of_ble_eq_true rfl) dX11_countMore_77 ⟨Nat.zero_le _, Nat.zero_le _⟩ (fun H locs hP hD hS => ?_)
      obtain ⟨r7, hr7, hf⟩ := bd hf
      refine zVi (As := [.long r6]) (rest := []) (ci := 8) (q0 := 0) (wn := [(a0, .inr (8, [.ref a0_now, .ref a0_images, .ref a0_merges, .ref a0_cut, .ref a0_index, .ref a0_otherIndex, .ref a0_readWords, .ref a0_triedPattern, .ref a0_alike])), (a0_now, .inr (6, [.ref a0_now_tape, .ref a0_now_dictionary, .ref a0_now_coming, .ref a0_now_pattern, .ref a0_now_fault, .int v0_now_edits])), (a0_now_tape, .inr (7, [.ref a0_now_tape_bytes, .int v0_now_tape_size])), (a0_now_dictionary, .inr (5, [.ref a0_now_dictionary_rows, .int v0_now_dictionary_size])), (a0_now_dictionary_rows, .inl (D.2 2, 40, .inr (.inl g0_now_dictionary_rows))), (a0_now_pattern, .inr (4, [.ref a0_now_pattern_signs, .int v0_now_pattern_size])), (a0_now_pattern_signs, .inl (D.2 1, 12, .inl g0_now_pattern_signs)), (a0_merges, .inr (3, [.ref a0_merges_before, .int v0_merges_size])), (a0_index, .inr (2, [.ref a0_index_turns])), (a0_index_turns, .inr (5, [.ref a0_index_turns_rows, .int v0_index_turns_size])), (a0_alike, .inl (D.2 1, 32, .inl r7.2))]) ⟨hx, hb, hml, hown, hts⟩ (mX11_placeToAsk l D a0 a0_now a0_images a0_merges a0_cut a0_index a0_otherIndex a0_readWords a0_triedPattern a0_alike a0_now_tape a0_now_dictionary a0_now_coming a0_now_pattern a0_now_fault a0_now_dictionary_rows H.size v0_now_edits v0_now_dictionary_size g0_now_dictionary_rows g0_alike r6 N r7 hr7) (cwV 1 hts gX11_countMore_X11_placeToAsk rfl rfl rfl (by decide +kernel) ⟨Nat.le_of_ble_eq_true rfl, Nat.le_of_ble_eq_true rfl⟩) hK hP hD hS hA [0, 1, 3, 4, 10] [2, 5, 6, 7, 8, 9] [6, 7, 0, 8, 9, 1, 2, 3, 4, 5, 10] rfl (by decide) rfl (by decide) (by decide) rfl (by decide) rfl rfl rfl hl.1 rfl (Nat.le_of_ble_eq_true rfl) dX11_countMore_80 ⟨Nat.zero_le _, Nat.zero_le _⟩ (fun H locs hP hD hS => ?_)
      have he := Option.some.inj hf
      rw [hQ]
      exact W.iret (v := r7.1) hx hb hr (fun t ht hW => by rw [← he]; exact ⟨⟨r7.1, (), rfl, rfl, by rw [ht]; exact hP, hD⟩, hS.F ht⟩) hS.2.2 dX11_countMore_83
    replace hf := im c_5 hf
    by_cases c_8 : p1 = 13
    · replace hf := ip c_8 hf
      refine lv_tableIn (tgt := 84) hx hb dX11_countMore_1 (by rw [c_8]; decide) (by rw [c_8]; decide) (off := 83) (by rw [c_8]; rfl) (by decide) ?_
      refine lv_aload_n hx hb dX11_countMore_84 rfl (lv_at hl 0 rfl) ?_
      refine va_get (D := D.1) (ci := 8) (v := .ref a0_merges) (C := RX11) (T := TX11) (N := 9) hx hb hts hwX11 hown hK.1 hP 0 rfl rfl 2 (by decide) l23 (fun _ h9 => h9) rfl dX11_countMore_85 ?_
      obtain ⟨r9, hr9, hf⟩ := bd hf
      refine zVi (As := []) (rest := []) (ci := 3) (q0 := 0) (wn := [(a0, .inr (8, [.ref a0_now, .ref a0_images, .ref a0_merges, .ref a0_cut, .ref a0_index, .ref a0_otherIndex, .ref a0_readWords, .ref a0_triedPattern, .ref a0_alike])), (a0_now, .inr (6, [.ref a0_now_tape, .ref a0_now_dictionary, .ref a0_now_coming, .ref a0_now_pattern, .ref a0_now_fault, .int v0_now_edits])), (a0_now_tape, .inr (7, [.ref a0_now_tape_bytes, .int v0_now_tape_size])), (a0_now_dictionary, .inr (5, [.ref a0_now_dictionary_rows, .int v0_now_dictionary_size])), (a0_now_dictionary_rows, .inl (D.2 2, 40, .inr (.inl g0_now_dictionary_rows))), (a0_now_pattern, .inr (4, [.ref a0_now_pattern_signs, .int v0_now_pattern_size])), (a0_now_pattern_signs, .inl (D.2 1, 12, .inl g0_now_pattern_signs)), (a0_merges, .inr (3, [.ref a0_merges_before, .int v0_merges_size])), (a0_index, .inr (2, [.ref a0_index_turns])), (a0_index_turns, .inr (5, [.ref a0_index_turns_rows, .int v0_index_turns_size])), (a0_alike, .inl (D.2 1, 32, .inl g0_alike))]) ⟨hx, hb, hml, hown, hts⟩ (mX4_size l D a0_merges a0_merges_before H.size v0_merges_size r9 hr9) (cwV 0 hts gX11_countMore_X4_size rfl rfl rfl (by decide +kernel) ⟨Nat.le_of_ble_eq_true rfl, Nat.le_of_ble_eq_true rfl⟩) hK hP hD hS hA [7] [0, 1, 2, 3, 4, 5, 6, 8, 9, 10] [0, 1, 2, 3, 4, 5, 6, 10, 7, 8, 9] rfl (by decide) rfl (by decide) (by decide) rfl (by decide) rfl rfl rfl hl.1 rfl (Nat.le_of_ble_eq_true rfl) dX11_countMore_88 ⟨Nat.zero_le _, Nat.zero_le _⟩ (fun H locs hP hD hS => ?_)
      have he := Option.some.inj hf
      rw [hQ]
      exact W.iret (v := r9) hx hb hr (fun t ht hW => by rw [← he]; exact ⟨⟨r9, (), rfl, rfl, by rw [ht]; exact hP, hD⟩, hS.F ht⟩) hS.2.2 dX11_countMore_91
    replace hf := im c_8 hf
    by_cases c_10 : p1 = 14
    · replace hf := ip c_10 hf
      refine lv_tableIn (tgt := 92) hx hb dX11_countMore_1 (by rw [c_10]; decide) (by rw [c_10]; decide) (off := 91) (by rw [c_10]; rfl) (by decide) ?_
      refine lv_aload_n hx hb dX11_countMore_92 rfl (lv_at hl 0 rfl) ?_
      refine va_get (D := D.1) (ci := 8) (v := .ref a0_now) (C := RX11) (T := TX11) (N := 9) hx hb hts hwX11 hown hK.1 hP 0 rfl rfl 0 (by decide) l12 (fun _ h9 => h9) rfl dX11_countMore_93 ?_
      refine va_get (D := D.1) (ci := 6) (v := .ref a0_now_tape) (C := RX9) (T := TX9) (N := 6) hx hb hts hwX9 hown hK.1 hP 1 rfl rfl 0 (by decide) l73 (fun _ h9 => h9) rfl dX11_countMore_96 ?_
      obtain ⟨r11, hr11, hf⟩ := bd hf
      refine zVi (As := []) (rest := []) (ci := 7) (q0 := 0) (wn := [(a0, .inr (8, [.ref a0_now, .ref a0_images, .ref a0_merges, .ref a0_cut, .ref a0_index, .ref a0_otherIndex, .ref a0_readWords, .ref a0_triedPattern, .ref a0_alike])), (a0_now, .inr (6, [.ref a0_now_tape, .ref a0_now_dictionary, .ref a0_now_coming, .ref a0_now_pattern, .ref a0_now_fault, .int v0_now_edits])), (a0_now_tape, .inr (7, [.ref a0_now_tape_bytes, .int v0_now_tape_size])), (a0_now_dictionary, .inr (5, [.ref a0_now_dictionary_rows, .int v0_now_dictionary_size])), (a0_now_dictionary_rows, .inl (D.2 2, 40, .inr (.inl g0_now_dictionary_rows))), (a0_now_pattern, .inr (4, [.ref a0_now_pattern_signs, .int v0_now_pattern_size])), (a0_now_pattern_signs, .inl (D.2 1, 12, .inl g0_now_pattern_signs)), (a0_merges, .inr (3, [.ref a0_merges_before, .int v0_merges_size])), (a0_index, .inr (2, [.ref a0_index_turns])), (a0_index_turns, .inr (5, [.ref a0_index_turns_rows, .int v0_index_turns_size])), (a0_alike, .inl (D.2 1, 32, .inl g0_alike))]) ⟨hx, hb, hml, hown, hts⟩ (mX10_size l D a0_now_tape a0_now_tape_bytes H.size v0_now_tape_size r11 hr11) (cwV 0 hts gX11_countMore_X10_size rfl rfl rfl (by decide +kernel) ⟨Nat.le_of_ble_eq_true rfl, Nat.le_of_ble_eq_true rfl⟩) hK hP hD hS hA [2] [0, 1, 3, 4, 5, 6, 7, 8, 9, 10] [0, 1, 10, 2, 3, 4, 5, 6, 7, 8, 9] rfl (by decide) rfl (by decide) (by decide) rfl (by decide) rfl rfl rfl hl.1 rfl (Nat.le_of_ble_eq_true rfl) dX11_countMore_99 ⟨Nat.zero_le _, Nat.zero_le _⟩ (fun H locs hP hD hS => ?_)
      have he := Option.some.inj hf
      rw [hQ]
      exact W.iret (v := r11) hx hb hr (fun t ht hW => by rw [← he]; exact ⟨⟨r11, (), rfl, rfl, by rw [ht]; exact hP, hD⟩, hS.F ht⟩) hS.2.2 dX11_countMore_102
    replace hf := im c_10 hf
    by_cases c_12 : p1 = 15
    · replace hf := ip c_12 hf
      refine lv_tableIn (tgt := 103) hx hb dX11_countMore_1 (by rw [c_12]; decide) (by rw [c_12]; decide) (off := 102) (by rw [c_12]; rfl) (by decide) ?_
      refine lv_aload_n hx hb dX11_countMore_103 rfl (lv_at hl 0 rfl) ?_
      refine va_get (D := D.1) (ci := 8) (v := .ref a0_index) (C := RX11) (T := TX11) (N := 9) hx hb hts hwX11 hown hK.1 hP 0 rfl rfl 4 (by decide) l45 (fun _ h9 => h9) rfl dX11_countMore_104 ?_
      obtain ⟨r13, hr13, hf⟩ := bd hf
      refine zVi (As := []) (rest := []) (ci := 2) (q0 := 0) (wn := [(a0, .inr (8, [.ref a0_now, .ref a0_images, .ref a0_merges, .ref a0_cut, .ref a0_index, .ref a0_otherIndex, .ref a0_readWords, .ref a0_triedPattern, .ref a0_alike])), (a0_now, .inr (6, [.ref a0_now_tape, .ref a0_now_dictionary, .ref a0_now_coming, .ref a0_now_pattern, .ref a0_now_fault, .int v0_now_edits])), (a0_now_tape, .inr (7, [.ref a0_now_tape_bytes, .int v0_now_tape_size])), (a0_now_dictionary, .inr (5, [.ref a0_now_dictionary_rows, .int v0_now_dictionary_size])), (a0_now_dictionary_rows, .inl (D.2 2, 40, .inr (.inl g0_now_dictionary_rows))), (a0_now_pattern, .inr (4, [.ref a0_now_pattern_signs, .int v0_now_pattern_size])), (a0_now_pattern_signs, .inl (D.2 1, 12, .inl g0_now_pattern_signs)), (a0_merges, .inr (3, [.ref a0_merges_before, .int v0_merges_size])), (a0_index, .inr (2, [.ref a0_index_turns])), (a0_index_turns, .inr (5, [.ref a0_index_turns_rows, .int v0_index_turns_size])), (a0_alike, .inl (D.2 1, 32, .inl g0_alike))]) ⟨hx, hb, hml, hown, hts⟩ (mX3_size l D a0_index a0_index_turns a0_index_turns_rows H.size v0_index_turns_size r13 hr13) (cwV 0 hts gX11_countMore_X3_size rfl rfl rfl (by decide +kernel) ⟨Nat.le_of_ble_eq_true rfl, Nat.le_of_ble_eq_true rfl⟩) hK hP hD hS hA [8, 9] [0, 1, 2, 3, 4, 5, 6, 7, 10] [0, 1, 2, 3, 4, 5, 6, 7, 9, 10, 8] rfl (by decide) rfl (by decide) (by decide) rfl (by decide) rfl rfl rfl hl.1 rfl (Nat.le_of_ble_eq_true rfl) dX11_countMore_107 ⟨Nat.zero_le _, Nat.zero_le _⟩ (fun H locs hP hD hS => ?_)
      refine lv_aload_n hx hb dX11_countMore_110 rfl (lv_at hl 0 rfl) ?_
      refine va_get (D := D.1) (ci := 8) (v := .ref a0_now) (C := RX11) (T := TX11) (N := 9) hx hb hts hwX11 hown hK.1 hP 0 rfl rfl 0 (by decide) l12 (fun _ h9 => h9) rfl dX11_countMore_111 ?_
      refine va_get (D := D.1) (ci := 6) (v := .ref a0_now_dictionary) (C := RX9) (T := TX9) (N := 6) hx hb hts hwX9 hown hK.1 hP 1 rfl rfl 1 (by decide) l112 (fun _ h9 => h9) rfl dX11_countMore_114 ?_
      obtain ⟨r14, hr14, hf⟩ := bd hf
      refine zVi (As := []) (rest := [.int r13]) (ci := 5) (q0 := 0) (wn := [(a0, .inr (8, [.ref a0_now, .ref a0_images, .ref a0_merges, .ref a0_cut, .ref a0_index, .ref a0_otherIndex, .ref a0_readWords, .ref a0_triedPattern, .ref a0_alike])), (a0_now, .inr (6, [.ref a0_now_tape, .ref a0_now_dictionary, .ref a0_now_coming, .ref a0_now_pattern, .ref a0_now_fault, .int v0_now_edits])), (a0_now_tape, .inr (7, [.ref a0_now_tape_bytes, .int v0_now_tape_size])), (a0_now_dictionary, .inr (5, [.ref a0_now_dictionary_rows, .int v0_now_dictionary_size])), (a0_now_dictionary_rows, .inl (D.2 2, 40, .inr (.inl g0_now_dictionary_rows))), (a0_now_pattern, .inr (4, [.ref a0_now_pattern_signs, .int v0_now_pattern_size])), (a0_now_pattern_signs, .inl (D.2 1, 12, .inl g0_now_pattern_signs)), (a0_merges, .inr (3, [.ref a0_merges_before, .int v0_merges_size])), (a0_index, .inr (2, [.ref a0_index_turns])), (a0_index_turns, .inr (5, [.ref a0_index_turns_rows, .int v0_index_turns_size])), (a0_alike, .inl (D.2 1, 32, .inl g0_alike))]) ⟨hx, hb, hml, hown, hts⟩ (mX7_size l D a0_now_dictionary a0_now_dictionary_rows H.size v0_now_dictionary_size r14 hr14) (cwV 0 hts gX11_countMore_X7_size rfl rfl rfl (by decide +kernel) ⟨Nat.le_of_ble_eq_true rfl, Nat.le_of_ble_eq_true rfl⟩) hK hP hD hS hA [3] [0, 1, 2, 4, 5, 6, 7, 8, 9, 10] [0, 1, 2, 10, 3, 4, 5, 6, 7, 8, 9] rfl (by decide) rfl (by decide) (by decide) rfl (by decide) rfl rfl rfl hl.1 rfl (Nat.le_of_ble_eq_true rfl) dX11_countMore_117 ⟨Nat.zero_le _, Nat.zero_le _⟩ (fun H locs hP hD hS => ?_)
      refine lv_isub hx hb dX11_countMore_120 ?_
      have he := Option.some.inj hf
      rw [hQ]
      exact W.iret (v := (r13 - r14)) hx hb hr (fun t ht hW => by rw [← he]; exact ⟨⟨(r13 - r14), (), rfl, rfl, by rw [ht]; exact hP, hD⟩, hS.F ht⟩) hS.2.2 dX11_countMore_121
    replace hf := im c_12 hf
    by_cases c_15 : p1 = 16
    · replace hf := ip c_15 hf
      refine lv_tableIn (tgt := 122) hx hb dX11_countMore_1 (by rw [c_15]; decide) (by rw [c_15]; decide) (off := 121) (by rw [c_15]; rfl) (by decide) ?_
      refine lv_aload_n hx hb dX11_countMore_122 rfl (lv_at hl 0 rfl) ?_
      obtain ⟨r16, hr16, hf⟩ := bd hf
      refine zVi (As := []) (rest := []) (ci := 8) (q0 := 0) (wn := [(a0, .inr (8, [.ref a0_now, .ref a0_images, .ref a0_merges, .ref a0_cut, .ref a0_index, .ref a0_otherIndex, .ref a0_readWords, .ref a0_triedPattern, .ref a0_alike])), (a0_now, .inr (6, [.ref a0_now_tape, .ref a0_now_dictionary, .ref a0_now_coming, .ref a0_now_pattern, .ref a0_now_fault, .int v0_now_edits])), (a0_now_tape, .inr (7, [.ref a0_now_tape_bytes, .int v0_now_tape_size])), (a0_now_dictionary, .inr (5, [.ref a0_now_dictionary_rows, .int v0_now_dictionary_size])), (a0_now_dictionary_rows, .inl (D.2 2, 40, .inr (.inl g0_now_dictionary_rows))), (a0_now_pattern, .inr (4, [.ref a0_now_pattern_signs, .int v0_now_pattern_size])), (a0_now_pattern_signs, .inl (D.2 1, 12, .inl g0_now_pattern_signs)), (a0_merges, .inr (3, [.ref a0_merges_before, .int v0_merges_size])), (a0_index, .inr (2, [.ref a0_index_turns])), (a0_index_turns, .inr (5, [.ref a0_index_turns_rows, .int v0_index_turns_size])), (a0_alike, .inl (D.2 1, 32, .inl g0_alike))]) ⟨hx, hb, hml, hown, hts⟩ (mX11_wordsThatBeginAlone l D a0 a0_now a0_images a0_merges a0_cut a0_index a0_otherIndex a0_readWords a0_triedPattern a0_alike a0_now_tape a0_now_dictionary a0_now_coming a0_now_pattern a0_now_fault a0_now_dictionary_rows H.size v0_now_edits v0_now_dictionary_size g0_now_dictionary_rows N r16 hr16) (cwV 0 hts gX11_countMore_X11_wordsThatBeginAlone rfl rfl rfl (by decide +kernel) ⟨Nat.le_of_ble_eq_true rfl, Nat.le_of_ble_eq_true rfl⟩) hK hP hD hS hA [0, 1, 3, 4] [2, 5, 6, 7, 8, 9, 10] [7, 8, 0, 9, 10, 1, 2, 3, 4, 5, 6] rfl (by decide) rfl (by decide) (by decide) rfl (by decide) rfl rfl rfl hl.1 rfl (Nat.le_of_ble_eq_true rfl) dX11_countMore_123 ⟨Nat.zero_le _, Nat.zero_le _⟩ (fun H locs hP hD hS => ?_)
      have he := Option.some.inj hf
      rw [hQ]
      exact W.iret (v := r16) hx hb hr (fun t ht hW => by rw [← he]; exact ⟨⟨r16, (), rfl, rfl, by rw [ht]; exact hP, hD⟩, hS.F ht⟩) hS.2.2 dX11_countMore_126
    replace hf := im c_15 hf
    cases hf
