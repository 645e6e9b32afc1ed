def fX11_answer_1 (N : Nat) (v0_now_coming_size : Int32) (g0_now_coming_rows : Nat → Int64) (v0_now_pattern_size : Int32) (g0_now_pattern_signs : Nat → Int32) (p1 : Int32) : Option (Int32) :=
  Option.bind (fX11_listOf_1) fun r1 =>
  Option.bind (fX11_answersOf N 40 v0_now_coming_size g0_now_coming_rows v0_now_pattern_size g0_now_pattern_signs) fun r2 =>
  Option.bind (fX0_numberOf N r2 p1) fun r3 =>
  some (r3)
set_option maxHeartbeats 4000000 in
set_option maxRecDepth 100000 in
theorem mX11_answer_1 (l : Launch) (D : zG) (a0 : Nat) (a0_now : Nat) (a0_images : Nat) (a0_merges : Nat) (a0_cut : Nat) (a0_index : Nat) (a0_otherIndex : Nat) (a0_readWords : Nat) (a0_triedPattern : Nat) (a0_alike : Nat) (a0_now_tape : Nat) (a0_now_dictionary : Nat) (a0_now_coming : Nat) (a0_now_pattern : Nat) (a0_now_fault : Nat) (a0_now_coming_rows : Nat) (a0_now_pattern_signs : Nat) (sz : Nat)  (v0_now_edits : Int32) (v0_now_coming_size : Int32) (g0_now_coming_rows : Nat → Int64) (v0_now_pattern_size : Int32) (g0_now_pattern_signs : Nat → Int32) (p1 : Int32) (N : Nat) (res : Int32) (hf : fX11_answer_1 N v0_now_coming_size g0_now_coming_rows v0_now_pattern_size g0_now_pattern_signs p1 = some res) : Met l yX11_answer wsX11_answer ({ frames := 5, cells := 0, slots := 0, locals := 119 } : Room) (va_Pc [.ref a0, .int p1, .int (1 : Int32)] (zW D sz [(a0, .inr (8, [.ref a0_now, .ref a0_images, .ref a0_merges, .ref a0_cut, .ref a0_index, .ref a0_otherIndex, .ref a0_readWords, .ref a0_triedPattern, .ref a0_alike])), (a0_now, .inr (6, [.ref a0_now_tape, .ref a0_now_dictionary, .ref a0_now_coming, .ref a0_now_pattern, .ref a0_now_fault, .int v0_now_edits])), (a0_now_coming, .inr (5, [.ref a0_now_coming_rows, .int v0_now_coming_size])), (a0_now_coming_rows, .inl (D.2 2, 40, .inr (.inl g0_now_coming_rows))), (a0_now_pattern, .inr (4, [.ref a0_now_pattern_signs, .int v0_now_pattern_size])), (a0_now_pattern_signs, .inl (D.2 1, 12, .inl g0_now_pattern_signs))])) (va_Qi (fun r (_ : Unit) => r = res) (fun _ => zB D (va_A [(a0, .inr (8, [.ref a0_now, .ref a0_images, .ref a0_merges, .ref a0_cut, .ref a0_index, .ref a0_otherIndex, .ref a0_readWords, .ref a0_triedPattern, .ref a0_alike])), (a0_now, .inr (6, [.ref a0_now_tape, .ref a0_now_dictionary, .ref a0_now_coming, .ref a0_now_pattern, .ref a0_now_fault, .int v0_now_edits])), (a0_now_coming, .inr (5, [.ref a0_now_coming_rows, .int v0_now_coming_size])), (a0_now_coming_rows, .inl (D.2 2, 40, .inr (.inl g0_now_coming_rows))), (a0_now_pattern, .inr (4, [.ref a0_now_pattern_signs, .int v0_now_pattern_size])), (a0_now_pattern_signs, .inl (D.2 1, 12, .inl g0_now_pattern_signs))] sz) [(a0, .inr (8, [.ref a0_now, .ref a0_images, .ref a0_merges, .ref a0_cut, .ref a0_index, .ref a0_otherIndex, .ref a0_readWords, .ref a0_triedPattern, .ref a0_alike])), (a0_now, .inr (6, [.ref a0_now_tape, .ref a0_now_dictionary, .ref a0_now_coming, .ref a0_now_pattern, .ref a0_now_fault, .int v0_now_edits])), (a0_now_coming, .inr (5, [.ref a0_now_coming_rows, .int v0_now_coming_size])), (a0_now_coming_rows, .inl (D.2 2, 40, .inr (.inl g0_now_coming_rows))), (a0_now_pattern, .inr (4, [.ref a0_now_pattern_signs, .int v0_now_pattern_size])), (a0_now_pattern_signs, .inl (D.2 1, 12, .inl g0_now_pattern_signs))]) (va_A [(a0, .inr (8, [.ref a0_now, .ref a0_images, .ref a0_merges, .ref a0_cut, .ref a0_index, .ref a0_otherIndex, .ref a0_readWords, .ref a0_triedPattern, .ref a0_alike])), (a0_now, .inr (6, [.ref a0_now_tape, .ref a0_now_dictionary, .ref a0_now_coming, .ref a0_now_pattern, .ref a0_now_fault, .int v0_now_edits])), (a0_now_coming, .inr (5, [.ref a0_now_coming_rows, .int v0_now_coming_size])), (a0_now_coming_rows, .inl (D.2 2, 40, .inr (.inl g0_now_coming_rows))), (a0_now_pattern, .inr (4, [.ref a0_now_pattern_signs, .int v0_now_pattern_size])), (a0_now_pattern_signs, .inl (D.2 1, 12, .inl g0_now_pattern_signs))] sz)) 0 0 (va_A [(a0, .inr (8, [.ref a0_now, .ref a0_images, .ref a0_merges, .ref a0_cut, .ref a0_index, .ref a0_otherIndex, .ref a0_readWords, .ref a0_triedPattern, .ref a0_alike])), (a0_now, .inr (6, [.ref a0_now_tape, .ref a0_now_dictionary, .ref a0_now_coming, .ref a0_now_pattern, .ref a0_now_fault, .int v0_now_edits])), (a0_now_coming, .inr (5, [.ref a0_now_coming_rows, .int v0_now_coming_size])), (a0_now_coming_rows, .inl (D.2 2, 40, .inr (.inl g0_now_coming_rows))), (a0_now_pattern, .inr (4, [.ref a0_now_pattern_signs, .int v0_now_pattern_size])), (a0_now_pattern_signs, .inl (D.2 1, 12, .inl g0_now_pattern_signs))] sz) := by
  refine Met.ofW (cc := cX11_answer) (maxL := 3) (ret := (some .int)) (by decide) rfl ?_
  intro p e s m args below meth c s₁ B hml hv
  obtain ⟨rfl, hsz, hP, hK, hD0⟩ := hv
  have hx := B.exec
  have hb := B.bytes
  have hr := B.returns
  have hts := atoms_spec (ws := wsX11_answer) B.pre
  have hown : s.vm.findClass RX11 = some m.cls := findClass_of_methodNamed B.named
  have hlocks := B.notSynchronized
  subst hsz
  have hD := hD0.self (sz := s.heap.size)
  generalize hAe : va_A [(a0, .inr (8, [.ref a0_now, .ref a0_images, .ref a0_merges, .ref a0_cut, .ref a0_index, .ref a0_otherIndex, .ref a0_readWords, .ref a0_triedPattern, .ref a0_alike])), (a0_now, .inr (6, [.ref a0_now_tape, .ref a0_now_dictionary, .ref a0_now_coming, .ref a0_now_pattern, .ref a0_now_fault, .int v0_now_edits])), (a0_now_coming, .inr (5, [.ref a0_now_coming_rows, .int v0_now_coming_size])), (a0_now_coming_rows, .inl (D.2 2, 40, .inr (.inl g0_now_coming_rows))), (a0_now_pattern, .inr (4, [.ref a0_now_pattern_signs, .int v0_now_pattern_size])), (a0_now_pattern_signs, .inl (D.2 1, 12, .inl g0_now_pattern_signs))] s.heap.size = A at hD ⊢
  have hA : ∀ q : Nat, s.heap.size ≤ q → A q := fun q h => by rw [← hAe]; exact Or.inr h
  have l12 := zat hts 1 (w := .fieldLink RX11 12 "TurnedWords" "now" "LTurnedWords$State;") rfl
  have l34 := zat hts 2 (w := .fieldLink RX11 34 "TurnedWords$State" "pattern" "LTurnedWords$Pattern;") rfl
  have hwX11 : ∀ w ∈ u_ws RX11 TX11 9, w ∈ wsX11_answer := fun w h => List.mem_cons_of_mem _ (List.mem_append_left _ (List.mem_append_left _ (List.mem_append_left _ (List.mem_append_right _ h))))
  have hwX9 : ∀ w ∈ u_ws RX9 TX9 6, w ∈ wsX11_answer := fun w h => List.mem_cons_of_mem _ (List.mem_append_left _ (List.mem_append_left _ (List.mem_append_right _ h)))
  have hl := lv_entry ([.ref a0, .int p1, .int (1 : Int32)]) (n := 3) (Nat.le_of_ble_eq_true rfl)
  rw [lg_entry_eq]
  generalize (lg_sl ([.ref a0, .int p1, .int (1 : Int32)]) ++ List.replicate (3 - (lg_sl ([.ref a0, .int p1, .int (1 : Int32)])).length) Slot.unset).toArray = ls at hl ⊢
  have hl : lv_has ls 3 [(0, .ref a0), (1, .int p1), (2, .int (1 : Int32))] := hl
  refine zStart (A := A) hP (fun Q0 H locs hQ hP hS => ?_)
  unfold fX11_answer_1 at hf
  refine lv_aload_n hx hb dX11_answer_0 rfl (lv_at hl 0 rfl) ?_
  refine lv_iload_n hx hb dX11_answer_1 rfl (lv_at hl 2 rfl) ?_
  obtain ⟨r1, hr1, hf⟩ := bd hf
  refine zVr (As := [.int (1 : Int32)]) (rest := []) (ci := 8) (q0 := 0) (wn := [(a0, .inr (8, [.ref a0_now, .ref a0_images, .ref a0_merges, .ref a0_cut, .ref a0_index, .ref a0_otherIndex, .ref a0_readWords, .ref a0_triedPattern, .ref a0_alike])), (a0_now, .inr (6, [.ref a0_now_tape, .ref a0_now_dictionary, .ref a0_now_coming, .ref a0_now_pattern, .ref a0_now_fault, .int v0_now_edits])), (a0_now_coming, .inr (5, [.ref a0_now_coming_rows, .int v0_now_coming_size])), (a0_now_coming_rows, .inl (D.2 2, 40, .inr (.inl g0_now_coming_rows))), (a0_now_pattern, .inr (4, [.ref a0_now_pattern_signs, .int v0_now_pattern_size])), (a0_now_pattern_signs, .inl (D.2 1, 12, .inl g0_now_pattern_signs))]) ⟨hx, hb, hml, hown, hts⟩ (mX11_listOf_1 l D a0 a0_now a0_images a0_merges a0_cut a0_index a0_otherIndex a0_readWords a0_triedPattern a0_alike a0_now_tape a0_now_dictionary a0_now_coming a0_now_pattern a0_now_fault H.size v0_now_edits r1 hr1) (cwV 1 hts gX11_answer_X11_listOf rfl rfl rfl (by decide +kernel) ⟨Nat.le_of_ble_eq_true rfl, Nat.le_of_ble_eq_true rfl⟩) hK hP hD hS hA [0, 1] [2, 3, 4, 5] [4, 5, 0, 1, 2, 3] rfl (by decide) rfl (by decide) (by decide) rfl (by decide) rfl rfl rfl hl.1 rfl (Nat.le_of_ble_eq_true rfl) dX11_answer_2 ⟨Nat.zero_le _, Nat.zero_le _⟩ (fun H locs hP hD hS => ?_)
  refine lv_aload_n hx hb dX11_answer_5 rfl (lv_at hl 0 rfl) ?_
  refine va_get (D := D.1) (ci := 8) (v := .ref a0_now) (C := RX11) (T := TX11) (N := 9) hx hb hts hwX11 hown hK.1 hP 0 rfl rfl 0 (by decide) l12 (fun _ h9 => h9) rfl dX11_answer_6 ?_
  refine va_get (D := D.1) (ci := 6) (v := .ref a0_now_pattern) (C := RX9) (T := TX9) (N := 6) hx hb hts hwX9 hown hK.1 hP 1 rfl rfl 3 (by decide) l34 (fun _ h9 => h9) rfl dX11_answer_9 ?_
  obtain ⟨r2, hr2, hf⟩ := bd hf
  refine zSl (As := [.ref a0_now_coming, .ref a0_now_pattern]) (rest := []) (wn := [(a0, .inr (8, [.ref a0_now, .ref a0_images, .ref a0_merges, .ref a0_cut, .ref a0_index, .ref a0_otherIndex, .ref a0_readWords, .ref a0_triedPattern, .ref a0_alike])), (a0_now, .inr (6, [.ref a0_now_tape, .ref a0_now_dictionary, .ref a0_now_coming, .ref a0_now_pattern, .ref a0_now_fault, .int v0_now_edits])), (a0_now_coming, .inr (5, [.ref a0_now_coming_rows, .int v0_now_coming_size])), (a0_now_coming_rows, .inl (D.2 2, 40, .inr (.inl g0_now_coming_rows))), (a0_now_pattern, .inr (4, [.ref a0_now_pattern_signs, .int v0_now_pattern_size])), (a0_now_pattern_signs, .inl (D.2 1, 12, .inl g0_now_pattern_signs))]) ⟨hx, hb, hml, hown, hts⟩ (mX11_answersOf l D a0_now_coming a0_now_coming_rows a0_now_pattern a0_now_pattern_signs H.size 40 v0_now_coming_size g0_now_coming_rows v0_now_pattern_size g0_now_pattern_signs N r2 hr2) (va_cwS 2 hts gX11_answer_X11_answersOf rfl rfl rfl (by decide +kernel) ⟨Nat.le_of_ble_eq_true rfl, Nat.le_of_ble_eq_true rfl⟩) hK hP hD hS hA [2, 3, 4, 5] [0, 1] [0, 1, 2, 3, 4, 5] rfl (by decide) rfl (by decide) (by decide) rfl (by decide) rfl hl.1 rfl (Nat.le_of_ble_eq_true rfl) dX11_answer_12 ⟨Nat.zero_le _, Nat.zero_le _⟩ (fun H locs hP hD hS => ?_)
  refine lv_iload_n hx hb dX11_answer_15 rfl (lv_at hl 1 rfl) ?_
  obtain ⟨r3, hr3, hf⟩ := bd hf
  refine zSi (As := [.long r2, .int p1]) (rest := []) (wn := [(a0, .inr (8, [.ref a0_now, .ref a0_images, .ref a0_merges, .ref a0_cut, .ref a0_index, .ref a0_otherIndex, .ref a0_readWords, .ref a0_triedPattern, .ref a0_alike])), (a0_now, .inr (6, [.ref a0_now_tape, .ref a0_now_dictionary, .ref a0_now_coming, .ref a0_now_pattern, .ref a0_now_fault, .int v0_now_edits])), (a0_now_coming, .inr (5, [.ref a0_now_coming_rows, .int v0_now_coming_size])), (a0_now_coming_rows, .inl (D.2 2, 40, .inr (.inl g0_now_coming_rows))), (a0_now_pattern, .inr (4, [.ref a0_now_pattern_signs, .int v0_now_pattern_size])), (a0_now_pattern_signs, .inl (D.2 1, 12, .inl g0_now_pattern_signs))]) ⟨hx, hb, hml, hown, hts⟩ (mX0_numberOf l D H.size r2 p1 N r3 hr3) (va_cwS 2 hts gX11_answer_X0_numberOf rfl rfl rfl (by decide +kernel) ⟨Nat.le_of_ble_eq_true rfl, Nat.le_of_ble_eq_true rfl⟩) hK hP hD hS hA [] [0, 1, 2, 3, 4, 5] [0, 1, 2, 3, 4, 5] rfl (by decide) rfl (by decide) (by decide) rfl (by decide) rfl hl.1 rfl (Nat.le_of_ble_eq_true rfl) dX11_answer_16 ⟨Nat.zero_le _, Nat.zero_le _⟩ (fun H locs hP hD hS => ?_)
  have he := Option.some.inj hf
  rw [hQ]
  exact W.iret (v := r3) hx hb hr (fun t ht hW => by rw [← he]; exact ⟨⟨r3, (), rfl, rfl, by rw [ht]; exact hP, hD⟩, hS.F ht⟩) hS.2.2 dX11_answer_19
def fX11_turn (v0_index_turns_size : Int32) (g0_index_turns_rows : Nat → Int64) (p1 : Int32) (p2 : Int32) : Option (Int32) :=
  if p1 < (0 : Int32) then
    some ((-1 : Int32))
  else
    Option.bind (fX3_size v0_index_turns_size) fun r2 =>
    if r2 ≤ p1 then
      some ((-1 : Int32))
    else
      if (0 : Int32) ≤ p2 then
        if p2 = 0 then
          Option.bind (fX3_wordAt v0_index_turns_size g0_index_turns_rows p1) fun r6 =>
          some (r6)
        else if p2 = 1 then
          Option.bind (fX3_numberAt v0_index_turns_size g0_index_turns_rows p1) fun r8 =>
          some (r8)
        else
          Option.bind (fX3_signsAt v0_index_turns_size g0_index_turns_rows p1) fun r9 =>
          Option.bind (fX8_signAt r9 (p2 - (2 : Int32))) fun r10 =>
          some (r10)
      else
        some ((-1 : Int32))
set_option maxHeartbeats 4000000 in
set_option maxRecDepth 100000 in
theorem mX11_turn (l : Launch) (D : zG) (a0 : Nat) (a0_now : Nat) (a0_images : Nat) (a0_merges : Nat) (a0_cut : Nat) (a0_index : Nat) (a0_otherIndex : Nat) (a0_readWords : Nat) (a0_triedPattern : Nat) (a0_alike : Nat) (a0_index_turns : Nat) (a0_index_turns_rows : Nat) (sz : Nat)  (v0_index_turns_size : Int32) (g0_index_turns_rows : Nat → Int64) (p1 : Int32) (p2 : Int32) (res : Int32) (hf : fX11_turn v0_index_turns_size g0_index_turns_rows p1 p2 = some res) : Met l yX11_turn wsX11_turn ({ frames := 3, cells := 0, slots := 0, locals := 63 } : Room) (va_Pc [.ref a0, .int p1, .int p2] (zW D sz [(a0, .inr (8, [.ref a0_now, .ref a0_images, .ref a0_merges, .ref a0_cut, .ref a0_index, .ref a0_otherIndex, .ref a0_readWords, .ref a0_triedPattern, .ref a0_alike])), (a0_index, .inr (2, [.ref a0_index_turns])), (a0_index_turns, .inr (5, [.ref a0_index_turns_rows, .int v0_index_turns_size])), (a0_index_turns_rows, .inl (D.2 2, 320, .inr (.inl g0_index_turns_rows)))])) (va_Qi (fun r (_ : Unit) => r = res) (fun _ => zB D (va_A [(a0, .inr (8, [.ref a0_now, .ref a0_images, .ref a0_merges, .ref a0_cut, .ref a0_index, .ref a0_otherIndex, .ref a0_readWords, .ref a0_triedPattern, .ref a0_alike])), (a0_index, .inr (2, [.ref a0_index_turns])), (a0_index_turns, .inr (5, [.ref a0_index_turns_rows, .int v0_index_turns_size])), (a0_index_turns_rows, .inl (D.2 2, 320, .inr (.inl g0_index_turns_rows)))] sz) [(a0, .inr (8, [.ref a0_now, .ref a0_images, .ref a0_merges, .ref a0_cut, .ref a0_index, .ref a0_otherIndex, .ref a0_readWords, .ref a0_triedPattern, .ref a0_alike])), (a0_index, .inr (2, [.ref a0_index_turns])), (a0_index_turns, .inr (5, [.ref a0_index_turns_rows, .int v0_index_turns_size])), (a0_index_turns_rows, .inl (D.2 2, 320, .inr (.inl g0_index_turns_rows)))]) (va_A [(a0, .inr (8, [.ref a0_now, .ref a0_images, .ref a0_merges, .ref a0_cut, .ref a0_index, .ref a0_otherIndex, .ref a0_readWords, .ref a0_triedPattern, .ref a0_alike])), (a0_index, .inr (2, [.ref a0_index_turns])), (a0_index_turns, .inr (5, [.ref a0_index_turns_rows, .int v0_index_turns_size])), (a0_index_turns_rows, .inl (D.2 2, 320, .inr (.inl g0_index_turns_rows)))] sz)) 0 0 (va_A [(a0, .inr (8, [.ref a0_now, .ref a0_images, .ref a0_merges, .ref a0_cut, .ref a0_index, .ref a0_otherIndex, .ref a0_readWords, .ref a0_triedPattern, .ref a0_alike])), (a0_index, .inr (2, [.ref a0_index_turns])), (a0_index_turns, .inr (5, [.ref a0_index_turns_rows, .int v0_index_turns_size])), (a0_index_turns_rows, .inl (D.2 2, 320, .inr (.inl g0_index_turns_rows)))] sz) := by
  refine Met.ofW (cc := cX11_turn) (maxL := 3) (ret := (some .int)) (by decide) rfl ?_
  intro p e s m args below meth c s₁ B hml hv
  obtain ⟨rfl, hsz, hP, hK, hD0⟩ := hv
  have hx := B.exec
  have hb := B.bytes
  have hr := B.returns
  have hts := atoms_spec (ws := wsX11_turn) B.pre
  have hown : s.vm.findClass RX11 = some m.cls := findClass_of_methodNamed B.named
  have hlocks := B.notSynchronized
  subst hsz
  have hD := hD0.self (sz := s.heap.size)
  generalize hAe : va_A [(a0, .inr (8, [.ref a0_now, .ref a0_images, .ref a0_merges, .ref a0_cut, .ref a0_index, .ref a0_otherIndex, .ref a0_readWords, .ref a0_triedPattern, .ref a0_alike])), (a0_index, .inr (2, [.ref a0_index_turns])), (a0_index_turns, .inr (5, [.ref a0_index_turns_rows, .int v0_index_turns_size])), (a0_index_turns_rows, .inl (D.2 2, 320, .inr (.inl g0_index_turns_rows)))] s.heap.size = A at hD ⊢
  have hA : ∀ q : Nat, s.heap.size ≤ q → A q := fun q h => by rw [← hAe]; exact Or.inr h
  have l45 := zat hts 1 (w := .fieldLink RX11 45 "TurnedWords" "index" "LTurnedWords$Index;") rfl
  have hwX11 : ∀ w ∈ u_ws RX11 TX11 9, w ∈ wsX11_turn := fun w h => List.mem_cons_of_mem _ (List.mem_append_left _ (List.mem_append_left _ (List.mem_append_right _ h)))
  have hl := lv_entry ([.ref a0, .int p1, .int p2]) (n := 3) (Nat.le_of_ble_eq_true rfl)
  rw [lg_entry_eq]
  generalize (lg_sl ([.ref a0, .int p1, .int p2]) ++ List.replicate (3 - (lg_sl ([.ref a0, .int p1, .int p2])).length) Slot.unset).toArray = ls at hl ⊢
  have hl : lv_has ls 3 [(0, .ref a0), (1, .int p1), (2, .int p2)] := hl
  refine zStart (A := A) hP (fun Q0 H locs hQ hP hS => ?_)
  unfold fX11_turn at hf
  refine lv_iload_n hx hb dX11_turn_0 rfl (lv_at hl 1 rfl) ?_
  refine lv_if_lt (tgt := 19) hx hb dX11_turn_1 (by decide) (fun c_1 => ?_) (fun c_1 => ?_)
  · replace hf := ip c_1 hf
    refine lv_iconst (v := -1) hx hb dX11_turn_19 (by decide) ?_
    have he := Option.some.inj hf
    rw [hQ]
    exact W.iret (v := (-1 : Int32)) hx hb hr (fun t ht hW => by rw [← he]; exact ⟨⟨(-1 : Int32), (), rfl, rfl, by rw [ht]; exact hP, hD⟩, hS.F ht⟩) hS.2.2 dX11_turn_20
  · replace hf := im c_1 hf
    refine lv_iload_n hx hb dX11_turn_4 rfl (lv_at hl 1 rfl) ?_
    refine lv_aload_n hx hb dX11_turn_5 rfl (lv_at hl 0 rfl) ?_
    refine va_get (D := D.1) (ci := 8) (v := .ref a0_index) (C := RX11) (T := TX11) (N := 9) hx hb hts hwX11 hown hK.1 hP 0 rfl rfl 4 (by decide) l45 (fun _ h9 => h9) rfl dX11_turn_6 ?_
    obtain ⟨r2, hr2, hf⟩ := bd hf
    refine zVi (As := []) (rest := [.int p1]) (ci := 2) (q0 := 0) (wn := [(a0, .inr (8, [.ref a0_now, .ref a0_images, .ref a0_merges, .ref a0_cut, .ref a0_index, .ref a0_otherIndex, .ref a0_readWords, .ref a0_triedPattern, .ref a0_alike])), (a0_index, .inr (2, [.ref a0_index_turns])), (a0_index_turns, .inr (5, [.ref a0_index_turns_rows, .int v0_index_turns_size])), (a0_index_turns_rows, .inl (D.2 2, 320, .inr (.inl g0_index_turns_rows)))]) ⟨hx, hb, hml, hown, hts⟩ (mX3_size l D a0_index a0_index_turns a0_index_turns_rows H.size v0_index_turns_size r2 hr2) (cwV 0 hts gX11_turn_X3_size rfl rfl rfl (by decide +kernel) ⟨Nat.le_of_ble_eq_true rfl, Nat.le_of_ble_eq_true rfl⟩) hK hP hD hS hA [1, 2] [0, 3] [0, 2, 3, 1] rfl (by decide) rfl (by decide) (by decide) rfl (by decide) rfl rfl rfl hl.1 rfl (Nat.le_of_ble_eq_true rfl) dX11_turn_9 ⟨Nat.zero_le _, Nat.zero_le _⟩ (fun H locs hP hD hS => ?_)
    refine lv_icmp_ge (tgt := 19) hx hb dX11_turn_12 (by decide) (fun c_3 => ?_) (fun c_3 => ?_)
    · replace hf := ip c_3 hf
      refine lv_iconst (v := -1) hx hb dX11_turn_19 (by decide) ?_
      have he := Option.some.inj hf
      rw [hQ]
      exact W.iret (v := (-1 : Int32)) hx hb hr (fun t ht hW => by rw [← he]; exact ⟨⟨(-1 : Int32), (), rfl, rfl, by rw [ht]; exact hP, hD⟩, hS.F ht⟩) hS.2.2 dX11_turn_20
    · replace hf := im c_3 hf
      refine lv_iload_n hx hb dX11_turn_15 rfl (lv_at hl 2 rfl) ?_
      refine lv_if_ge (tgt := 21) hx hb dX11_turn_16 (by decide) (fun c_4 => ?_) (fun c_4 => ?_)
      · replace hf := ip c_4 hf
        refine lv_iload_n hx hb dX11_turn_21 rfl (lv_at hl 2 rfl) ?_
        by_cases c_5 : p2 = 0
        · replace hf := ip c_5 hf
          refine lv_lookup (tgt := 48) hx hb dX11_turn_22 (by decide) (off := 26) (by rw [c_5]; rfl) (by decide) ?_
          refine lv_aload_n hx hb dX11_turn_48 rfl (lv_at hl 0 rfl) ?_
          refine va_get (D := D.1) (ci := 8) (v := .ref a0_index) (C := RX11) (T := TX11) (N := 9) hx hb hts hwX11 hown hK.1 hP 0 rfl rfl 4 (by decide) l45 (fun _ h9 => h9) rfl dX11_turn_49 ?_
          refine lv_iload_n hx hb dX11_turn_52 rfl (lv_at hl 1 rfl) ?_
          obtain ⟨r6, hr6, hf⟩ := bd hf
          refine zVi (As := [.int p1]) (rest := []) (ci := 2) (q0 := 0) (wn := [(a0, .inr (8, [.ref a0_now, .ref a0_images, .ref a0_merges, .ref a0_cut, .ref a0_index, .ref a0_otherIndex, .ref a0_readWords, .ref a0_triedPattern, .ref a0_alike])), (a0_index, .inr (2, [.ref a0_index_turns])), (a0_index_turns, .inr (5, [.ref a0_index_turns_rows, .int v0_index_turns_size])), (a0_index_turns_rows, .inl (D.2 2, 320, .inr (.inl g0_index_turns_rows)))]) ⟨hx, hb, hml, hown, hts⟩ (mX3_wordAt l D a0_index a0_index_turns a0_index_turns_rows H.size v0_index_turns_size g0_index_turns_rows p1 r6 hr6) (cwV 1 hts gX11_turn_X3_wordAt rfl rfl rfl (by decide +kernel) ⟨Nat.le_of_ble_eq_true rfl, Nat.le_of_ble_eq_true rfl⟩) hK hP hD hS hA [1, 2, 3] [0] [0, 1, 2, 3] rfl (by decide) rfl (by decide) (by decide) rfl (by decide) rfl rfl rfl hl.1 rfl (Nat.le_of_ble_eq_true rfl) dX11_turn_53 ⟨Nat.zero_le _, Nat.zero_le _⟩ (fun H locs hP hD hS => ?_)
          have he := Option.some.inj hf
          rw [hQ]
          exact W.iret (v := r6) hx hb hr (fun t ht hW => by rw [← he]; exact ⟨⟨r6, (), rfl, rfl, by rw [ht]; exact hP, hD⟩, hS.F ht⟩) hS.2.2 dX11_turn_56
        replace hf := im c_5 hf
        by_cases c_7 : p2 = 1
        · replace hf := ip c_7 hf
          refine lv_lookup (tgt := 57) hx hb dX11_turn_22 (by decide) (off := 35) (by rw [c_7]; rfl) (by decide) ?_
          refine lv_aload_n hx hb dX11_turn_57 rfl (lv_at hl 0 rfl) ?_
          refine va_get (D := D.1) (ci := 8) (v := .ref a0_index) (C := RX11) (T := TX11) (N := 9) hx hb hts hwX11 hown hK.1 hP 0 rfl rfl 4 (by decide) l45 (fun _ h9 => h9) rfl dX11_turn_58 ?_
          refine lv_iload_n hx hb dX11_turn_61 rfl (lv_at hl 1 rfl) ?_
          obtain ⟨r8, hr8, hf⟩ := bd hf
          refine zVi (As := [.int p1]) (rest := []) (ci := 2) (q0 := 0) (wn := [(a0, .inr (8, [.ref a0_now, .ref a0_images, .ref a0_merges, .ref a0_cut, .ref a0_index, .ref a0_otherIndex, .ref a0_readWords, .ref a0_triedPattern, .ref a0_alike])), (a0_index, .inr (2, [.ref a0_index_turns])), (a0_index_turns, .inr (5, [.ref a0_index_turns_rows, .int v0_index_turns_size])), (a0_index_turns_rows, .inl (D.2 2, 320, .inr (.inl g0_index_turns_rows)))]) ⟨hx, hb, hml, hown, hts⟩ (mX3_numberAt l D a0_index a0_index_turns a0_index_turns_rows H.size v0_index_turns_size g0_index_turns_rows p1 r8 hr8) (cwV 1 hts gX11_turn_X3_numberAt rfl rfl rfl (by decide +kernel) ⟨Nat.le_of_ble_eq_true rfl, Nat.le_of_ble_eq_true rfl⟩) hK hP hD hS hA [1, 2, 3] [0] [0, 1, 2, 3] rfl (by decide) rfl (by decide) (by decide) rfl (by decide) rfl rfl rfl hl.1 rfl (Nat.le_of_ble_eq_true rfl) dX11_turn_62 ⟨Nat.zero_le _, Nat.zero_le _⟩ (fun H locs hP hD hS => ?_)
          have he := Option.some.inj hf
          rw [hQ]
          exact W.iret (v := r8) hx hb hr (fun t ht hW => by rw [← he]; exact ⟨⟨r8, (), rfl, rfl, by rw [ht]; exact hP, hD⟩, hS.F ht⟩) hS.2.2 dX11_turn_65
        replace hf := im c_7 hf
        refine lv_lookup (tgt := 66) hx hb dX11_turn_22 (by decide) (off := 44) (zlook2 c_5 c_7) (by decide) ?_
        refine lv_aload_n hx hb dX11_turn_66 rfl (lv_at hl 0 rfl) ?_
        refine va_get (D := D.1) (ci := 8) (v := .ref a0_index) (C := RX11) (T := TX11) (N := 9) hx hb hts hwX11 hown hK.1 hP 0 rfl rfl 4 (by decide) l45 (fun _ h9 => h9) rfl dX11_turn_67 ?_
        refine lv_iload_n hx hb dX11_turn_70 rfl (lv_at hl 1 rfl) ?_
        obtain ⟨r9, hr9, hf⟩ := bd hf
        refine zVl (As := [.int p1]) (rest := []) (ci := 2) (q0 := 0) (wn := [(a0, .inr (8, [.ref a0_now, .ref a0_images, .ref a0_merges, .ref a0_cut, .ref a0_index, .ref a0_otherIndex, .ref a0_readWords, .ref a0_triedPattern, .ref a0_alike])), (a0_index, .inr (2, [.ref a0_index_turns])), (a0_index_turns, .inr (5, [.ref a0_index_turns_rows, .int v0_index_turns_size])), (a0_index_turns_rows, .inl (D.2 2, 320, .inr (.inl g0_index_turns_rows)))]) ⟨hx, hb, hml, hown, hts⟩ (mX3_signsAt l D a0_index a0_index_turns a0_index_turns_rows H.size v0_index_turns_size g0_index_turns_rows p1 r9 hr9) (cwV 1 hts gX11_turn_X3_signsAt rfl rfl rfl (by decide +kernel) ⟨Nat.le_of_ble_eq_true rfl, Nat.le_of_ble_eq_true rfl⟩) hK hP hD hS hA [1, 2, 3] [0] [0, 1, 2, 3] rfl (by decide) rfl (by decide) (by decide) rfl (by decide) rfl rfl rfl hl.1 rfl (Nat.le_of_ble_eq_true rfl) dX11_turn_71 ⟨Nat.zero_le _, Nat.zero_le _⟩ (fun H locs hP hD hS => ?_)
        refine lv_iload_n hx hb dX11_turn_74 rfl (lv_at hl 2 rfl) ?_
        refine lv_iconst (v := 2) hx hb dX11_turn_75 (by decide) ?_
        refine lv_isub hx hb dX11_turn_76 ?_
        obtain ⟨r10, hr10, hf⟩ := bd hf
        refine zSi (As := [.long r9, .int (p2 - (2 : Int32))]) (rest := []) (wn := [(a0, .inr (8, [.ref a0_now, .ref a0_images, .ref a0_merges, .ref a0_cut, .ref a0_index, .ref a0_otherIndex, .ref a0_readWords, .ref a0_triedPattern, .ref a0_alike])), (a0_index, .inr (2, [.ref a0_index_turns])), (a0_index_turns, .inr (5, [.ref a0_index_turns_rows, .int v0_index_turns_size])), (a0_index_turns_rows, .inl (D.2 2, 320, .inr (.inl g0_index_turns_rows)))]) ⟨hx, hb, hml, hown, hts⟩ (mX8_signAt l D H.size r9 (p2 - (2 : Int32)) r10 hr10) (va_cwS 2 hts gX11_turn_X8_signAt rfl rfl rfl (by decide +kernel) ⟨Nat.le_of_ble_eq_true rfl, Nat.le_of_ble_eq_true rfl⟩) hK hP hD hS hA [] [0, 1, 2, 3] [0, 1, 2, 3] rfl (by decide) rfl (by decide) (by decide) rfl (by decide) rfl hl.1 rfl (Nat.le_of_ble_eq_true rfl) dX11_turn_77 ⟨Nat.zero_le _, Nat.zero_le _⟩ (fun H locs hP hD hS => ?_)
        have he := Option.some.inj hf
        rw [hQ]
        exact W.iret (v := r10) hx hb hr (fun t ht hW => by rw [← he]; exact ⟨⟨r10, (), rfl, rfl, by rw [ht]; exact hP, hD⟩, hS.F ht⟩) hS.2.2 dX11_turn_80
      · replace hf := im c_4 hf
        refine lv_iconst (v := -1) hx hb dX11_turn_19 (by decide) ?_
        have he := Option.some.inj hf
        rw [hQ]
        exact W.iret (v := (-1 : Int32)) hx hb hr (fun t ht hW => by rw [← he]; exact ⟨⟨(-1 : Int32), (), rfl, rfl, by rw [ht]; exact hP, hD⟩, hS.F ht⟩) hS.2.2 dX11_turn_20
def fX11_run (N : Nat) (v0_cut_runs : Int32) (g0_cut_signs : Nat → Int32) (g0_cut_starts : Nat → Int32) (g0_cut_lengths : Nat → Int32) (g0_cut_piecesOfRuns : Nat → Int32) (g0_cut_heads : Nat → Int64) (v0_index_turns_size : Int32) (g0_index_turns_rows : Nat → Int64) (p1 : Int32) (p2 : Int32) : Option (Int32) :=
  Option.bind (fX1_hasRun v0_cut_runs p1) fun r1 =>
  if r1 = (0 : Int32) then
    some ((-1 : Int32))
  else
    if (0 : Int32) ≤ p2 then
      if (p2).toInt < 0 ∨ 4 < (p2).toInt then
        Option.bind (fX1_signOf v0_cut_runs g0_cut_signs g0_cut_starts g0_cut_lengths p1 (p2 - (5 : Int32))) fun r6 =>
        some (r6)
      else if p2 = 0 then
        Option.bind (fX1_lengthOf v0_cut_runs g0_cut_lengths p1) fun r8 =>
        some (r8)
      else if p2 = 1 then
        Option.bind (fX1_pieceOf v0_cut_runs g0_cut_piecesOfRuns p1) fun r10 =>
        some (r10)
      else if p2 = 2 then
        Option.bind (fX11_rangeSize N v0_cut_runs g0_cut_lengths g0_cut_heads v0_index_turns_size g0_index_turns_rows p1) fun r12 =>
        if r12 = (0 : Int32) then
          some ((-1 : Int32))
        else
          Option.bind (fX1_headOf v0_cut_runs g0_cut_heads p1) fun r14 =>
          Option.bind (fX3_from N v0_index_turns_size g0_index_turns_rows r14) fun r15 =>
          some (r15)
      else if p2 = 3 then
        Option.bind (fX11_rangeSize N v0_cut_runs g0_cut_lengths g0_cut_heads v0_index_turns_size g0_index_turns_rows p1) fun r17 =>
        some (r17)
      else if p2 = 4 then
        Option.bind (fX11_wordsOfRun N v0_cut_runs g0_cut_lengths g0_cut_heads v0_index_turns_size g0_index_turns_rows p1) fun r19 =>
        Option.bind (fJ13_bitCount_95d88 r19) fun r20 =>
        some (r20)
      else none
    else
      some ((-1 : Int32))
set_option maxHeartbeats 4000000 in
set_option maxRecDepth 100000 in
theorem mX11_run (l : Launch) (D : zG) (a0 : Nat) (a0_now : Nat) (a0_images : Nat) (a0_merges : Nat) (a0_cut : Nat) (a0_index : Nat) (a0_otherIndex : Nat) (a0_readWords : Nat) (a0_triedPattern : Nat) (a0_alike : Nat) (a0_cut_signs : Nat) (a0_cut_starts : Nat) (a0_cut_lengths : Nat) (a0_cut_piecesOfRuns : Nat) (a0_cut_heads : Nat) (a0_index_turns : Nat) (a0_index_turns_rows : Nat) (sz : Nat)  (v0_cut_size : Int32) (v0_cut_runs : Int32) (v0_cut_pieces : Int32) (v0_cut_inRun : Int32) (g0_cut_signs : Nat → Int32) (g0_cut_starts : Nat → Int32) (g0_cut_lengths : Nat → Int32) (g0_cut_piecesOfRuns : Nat → Int32) (g0_cut_heads : Nat → Int64) (v0_index_turns_size : Int32) (g0_index_turns_rows : Nat → Int64) (p1 : Int32) (p2 : Int32) (N : Nat) (res : Int32) (hf : fX11_run N v0_cut_runs g0_cut_signs g0_cut_starts g0_cut_lengths g0_cut_piecesOfRuns g0_cut_heads v0_index_turns_size g0_index_turns_rows p1 p2 = some res) : Met l yX11_run wsX11_run ({ frames := 5, cells := 0, slots := 0, locals := 118 } : Room) (va_Pc [.ref a0, .int p1, .int p2] (zW D sz [(a0, .inr (8, [.ref a0_now, .ref a0_images, .ref a0_merges, .ref a0_cut, .ref a0_index, .ref a0_otherIndex, .ref a0_readWords, .ref a0_triedPattern, .ref a0_alike])), (a0_cut, .inr (0, [.ref a0_cut_signs, .ref a0_cut_starts, .ref a0_cut_lengths, .ref a0_cut_piecesOfRuns, .ref a0_cut_heads, .int v0_cut_size, .int v0_cut_runs, .int v0_cut_pieces, .int v0_cut_inRun])), (a0_cut_signs, .inl (D.2 1, 13, .inl g0_cut_signs)), (a0_cut_starts, .inl (D.2 1, 13, .inl g0_cut_starts)), (a0_cut_lengths, .inl (D.2 1, 13, .inl g0_cut_lengths)), (a0_cut_piecesOfRuns, .inl (D.2 1, 13, .inl g0_cut_piecesOfRuns)), (a0_cut_heads, .inl (D.2 2, 13, .inr (.inl g0_cut_heads))), (a0_index, .inr (2, [.ref a0_index_turns])), (a0_index_turns, .inr (5, [.ref a0_index_turns_rows, .int v0_index_turns_size])), (a0_index_turns_rows, .inl (D.2 2, 320, .inr (.inl g0_index_turns_rows)))])) (va_Qi (fun r (_ : Unit) => r = res) (fun _ => zB D (va_A [(a0, .inr (8, [.ref a0_now, .ref a0_images, .ref a0_merges, .ref a0_cut, .ref a0_index, .ref a0_otherIndex, .ref a0_readWords, .ref a0_triedPattern, .ref a0_alike])), (a0_cut, .inr (0, [.ref a0_cut_signs, .ref a0_cut_starts, .ref a0_cut_lengths, .ref a0_cut_piecesOfRuns, .ref a0_cut_heads, .int v0_cut_size, .int v0_cut_runs, .int v0_cut_pieces, .int v0_cut_inRun])), (a0_cut_signs, .inl (D.2 1, 13, .inl g0_cut_signs)), (a0_cut_starts, .inl (D.2 1, 13, .inl g0_cut_starts)), (a0_cut_lengths, .inl (D.2 1, 13, .inl g0_cut_lengths)), (a0_cut_piecesOfRuns, .inl (D.2 1, 13, .inl g0_cut_piecesOfRuns)), (a0_cut_heads, .inl (D.2 2, 13, .inr (.inl g0_cut_heads))), (a0_index, .inr (2, [.ref a0_index_turns])), (a0_index_turns, .inr (5, [.ref a0_index_turns_rows, .int v0_index_turns_size])), (a0_index_turns_rows, .inl (D.2 2, 320, .inr (.inl g0_index_turns_rows)))] sz) [(a0, .inr (8, [.ref a0_now, .ref a0_images, .ref a0_merges, .ref a0_cut, .ref a0_index, .ref a0_otherIndex, .ref a0_readWords, .ref a0_triedPattern, .ref a0_alike])), (a0_cut, .inr (0, [.ref a0_cut_signs, .ref a0_cut_starts, .ref a0_cut_lengths, .ref a0_cut_piecesOfRuns, .ref a0_cut_heads, .int v0_cut_size, .int v0_cut_runs, .int v0_cut_pieces, .int v0_cut_inRun])), (a0_cut_signs, .inl (D.2 1, 13, .inl g0_cut_signs)), (a0_cut_starts, .inl (D.2 1, 13, .inl g0_cut_starts)), (a0_cut_lengths, .inl (D.2 1, 13, .inl g0_cut_lengths)), (a0_cut_piecesOfRuns, .inl (D.2 1, 13, .inl g0_cut_piecesOfRuns)), (a0_cut_heads, .inl (D.2 2, 13, .inr (.inl g0_cut_heads))), (a0_index, .inr (2, [.ref a0_index_turns])), (a0_index_turns, .inr (5, [.ref a0_index_turns_rows, .int v0_index_turns_size])), (a0_index_turns_rows, .inl (D.2 2, 320, .inr (.inl g0_index_turns_rows)))]) (va_A [(a0, .inr (8, [.ref a0_now, .ref a0_images, .ref a0_merges, .ref a0_cut, .ref a0_index, .ref a0_otherIndex, .ref a0_readWords, .ref a0_triedPattern, .ref a0_alike])), (a0_cut, .inr (0, [.ref a0_cut_signs, .ref a0_cut_starts, .ref a0_cut_lengths, .ref a0_cut_piecesOfRuns, .ref a0_cut_heads, .int v0_cut_size, .int v0_cut_runs, .int v0_cut_pieces, .int v0_cut_inRun])), (a0_cut_signs, .inl (D.2 1, 13, .inl g0_cut_signs)), (a0_cut_starts, .inl (D.2 1, 13, .inl g0_cut_starts)), (a0_cut_lengths, .inl (D.2 1, 13, .inl g0_cut_lengths)), (a0_cut_piecesOfRuns, .inl (D.2 1, 13, .inl g0_cut_piecesOfRuns)), (a0_cut_heads, .inl (D.2 2, 13, .inr (.inl g0_cut_heads))), (a0_index, .inr (2, [.ref a0_index_turns])), (a0_index_turns, .inr (5, [.ref a0_index_turns_rows, .int v0_index_turns_size])), (a0_index_turns_rows, .inl (D.2 2, 320, .inr (.inl g0_index_turns_rows)))] sz)) 0 0 (va_A [(a0, .inr (8, [.ref a0_now, .ref a0_images, .ref a0_merges, .ref a0_cut, .ref a0_index, .ref a0_otherIndex, .ref a0_readWords, .ref a0_triedPattern, .ref a0_alike])), (a0_cut, .inr (0, [.ref a0_cut_signs, .ref a0_cut_starts, .ref a0_cut_lengths, .ref a0_cut_piecesOfRuns, .ref a0_cut_heads, .int v0_cut_size, .int v0_cut_runs, .int v0_cut_pieces, .int v0_cut_inRun])), (a0_cut_signs, .inl (D.2 1, 13, .inl g0_cut_signs)), (a0_cut_starts, .inl (D.2 1, 13, .inl g0_cut_starts)), (a0_cut_lengths, .inl (D.2 1, 13, .inl g0_cut_lengths)), (a0_cut_piecesOfRuns, .inl (D.2 1, 13, .inl g0_cut_piecesOfRuns)), (a0_cut_heads, .inl (D.2 2, 13, .inr (.inl g0_cut_heads))), (a0_index, .inr (2, [.ref a0_index_turns])), (a0_index_turns, .inr (5, [.ref a0_index_turns_rows, .int v0_index_turns_size])), (a0_index_turns_rows, .inl (D.2 2, 320, .inr (.inl g0_index_turns_rows)))] sz) := by
  refine Met.ofW (cc := cX11_run) (maxL := 3) (ret := (some .int)) (by decide) rfl ?_
  intro p e s m args below meth c s₁ B hml hv
  obtain ⟨rfl, hsz, hP, hK, hD0⟩ := hv
  have hx := B.exec
  have hb := B.bytes
  have hr := B.returns
  have hts := atoms_spec (ws := wsX11_run) B.pre
  have hown : s.vm.findClass RX11 = some m.cls := findClass_of_methodNamed B.named
  have hlocks := B.notSynchronized
  subst hsz
  have hD := hD0.self (sz := s.heap.size)
  generalize hAe : va_A [(a0, .inr (8, [.ref a0_now, .ref a0_images, .ref a0_merges, .ref a0_cut, .ref a0_index, .ref a0_otherIndex, .ref a0_readWords, .ref a0_triedPattern, .ref a0_alike])), (a0_cut, .inr (0, [.ref a0_cut_signs, .ref a0_cut_starts, .ref a0_cut_lengths, .ref a0_cut_piecesOfRuns, .ref a0_cut_heads, .int v0_cut_size, .int v0_cut_runs, .int v0_cut_pieces, .int v0_cut_inRun])), (a0_cut_signs, .inl (D.2 1, 13, .inl g0_cut_signs)), (a0_cut_starts, .inl (D.2 1, 13, .inl g0_cut_starts)), (a0_cut_lengths, .inl (D.2 1, 13, .inl g0_cut_lengths)), (a0_cut_piecesOfRuns, .inl (D.2 1, 13, .inl g0_cut_piecesOfRuns)), (a0_cut_heads, .inl (D.2 2, 13, .inr (.inl g0_cut_heads))), (a0_index, .inr (2, [.ref a0_index_turns])), (a0_index_turns, .inr (5, [.ref a0_index_turns_rows, .int v0_index_turns_size])), (a0_index_turns_rows, .inl (D.2 2, 320, .inr (.inl g0_index_turns_rows)))] s.heap.size = A at hD ⊢
  have hA : ∀ q : Nat, s.heap.size ≤ q → A q := fun q h => by rw [← hAe]; exact Or.inr h
  have l30 := zat hts 1 (w := .fieldLink RX11 30 "TurnedWords" "cut" "LTurnedWords$Cut;") rfl
  have l45 := zat hts 2 (w := .fieldLink RX11 45 "TurnedWords" "index" "LTurnedWords$Index;") rfl
  have hwX11 : ∀ w ∈ u_ws RX11 TX11 9, w ∈ wsX11_run := fun w h => List.mem_cons_of_mem _ (List.mem_append_left _ (List.mem_append_left _ (List.mem_append_left _ (List.mem_append_right _ h))))
  have hl := lv_entry ([.ref a0, .int p1, .int p2]) (n := 3) (Nat.le_of_ble_eq_true rfl)
  rw [lg_entry_eq]
  generalize (lg_sl ([.ref a0, .int p1, .int p2]) ++ List.replicate (3 - (lg_sl ([.ref a0, .int p1, .int p2])).length) Slot.unset).toArray = ls at hl ⊢
  have hl : lv_has ls 3 [(0, .ref a0), (1, .int p1), (2, .int p2)] := hl
  refine zStart (A := A) hP (fun Q0 H locs hQ hP hS => ?_)
  unfold fX11_run at hf
  refine lv_aload_n hx hb dX11_run_0 rfl (lv_at hl 0 rfl) ?_
  refine va_get (D := D.1) (ci := 8) (v := .ref a0_cut) (C := RX11) (T := TX11) (N := 9) hx hb hts hwX11 hown hK.1 hP 0 rfl rfl 3 (by decide) l30 (fun _ h9 => h9) rfl dX11_run_1 ?_
  refine lv_iload_n hx hb dX11_run_4 rfl (lv_at hl 1 rfl) ?_
  obtain ⟨r1, hr1, hf⟩ := bd hf
  refine zVz (As := [.int p1]) (rest := []) (ci := 0) (q0 := 0) (wn := [(a0, .inr (8, [.ref a0_now, .ref a0_images, .ref a0_merges, .ref a0_cut, .ref a0_index, .ref a0_otherIndex, .ref a0_readWords, .ref a0_triedPattern, .ref a0_alike])), (a0_cut, .inr (0, [.ref a0_cut_signs, .ref a0_cut_starts, .ref a0_cut_lengths, .ref a0_cut_piecesOfRuns, .ref a0_cut_heads, .int v0_cut_size, .int v0_cut_runs, .int v0_cut_pieces, .int v0_cut_inRun])), (a0_cut_signs, .inl (D.2 1, 13, .inl g0_cut_signs)), (a0_cut_starts, .inl (D.2 1, 13, .inl g0_cut_starts)), (a0_cut_lengths, .inl (D.2 1, 13, .inl g0_cut_lengths)), (a0_cut_piecesOfRuns, .inl (D.2 1, 13, .inl g0_cut_piecesOfRuns)), (a0_cut_heads, .inl (D.2 2, 13, .inr (.inl g0_cut_heads))), (a0_index, .inr (2, [.ref a0_index_turns])), (a0_index_turns, .inr (5, [.ref a0_index_turns_rows, .int v0_index_turns_size])), (a0_index_turns_rows, .inl (D.2 2, 320, .inr (.inl g0_index_turns_rows)))]) ⟨hx, hb, hml, hown, hts⟩ (mX1_hasRun l D a0_cut a0_cut_signs a0_cut_starts a0_cut_lengths a0_cut_piecesOfRuns a0_cut_heads H.size v0_cut_size v0_cut_runs v0_cut_pieces v0_cut_inRun p1 r1 hr1) (cwV 1 hts gX11_run_X1_hasRun rfl rfl rfl (by decide +kernel) ⟨Nat.le_of_ble_eq_true rfl, Nat.le_of_ble_eq_true rfl⟩) hK hP hD hS hA [1] [0, 2, 3, 4, 5, 6, 7, 8, 9] [0, 9, 1, 2, 3, 4, 5, 6, 7, 8] rfl (by decide) rfl (by decide) (by decide) rfl (by decide) rfl rfl rfl hl.1 rfl (Nat.le_of_ble_eq_true rfl) dX11_run_5 ⟨Nat.zero_le _, Nat.zero_le _⟩ (fun H locs hb_2 hP hD hS => ?_)
  refine lv_if_eq (tgt := 15) hx hb dX11_run_8 (by decide) (fun c_3 => ?_) (fun c_3 => ?_)
  · replace hf := ip c_3 hf
    refine lv_iconst (v := -1) hx hb dX11_run_15 (by decide) ?_
    have he := Option.some.inj hf
    rw [hQ]
    exact W.iret (v := (-1 : Int32)) hx hb hr (fun t ht hW => by rw [← he]; exact ⟨⟨(-1 : Int32), (), rfl, rfl, by rw [ht]; exact hP, hD⟩, hS.F ht⟩) hS.2.2 dX11_run_16
  · replace hf := im c_3 hf
    refine lv_iload_n hx hb dX11_run_11 rfl (lv_at hl 2 rfl) ?_
    refine lv_if_ge (tgt := 17) hx hb dX11_run_12 (by decide) (fun c_4 => ?_) (fun c_4 => ?_)
    · replace hf := ip c_4 hf
      refine lv_iload_n hx hb dX11_run_17 rfl (lv_at hl 2 rfl) ?_
      by_cases c_5 : (p2).toInt < 0 ∨ 4 < (p2).toInt
      · replace hf := ip c_5 hf
        refine lv_tableOut (tgt := 113) hx hb dX11_run_18 c_5 (by decide) ?_
        refine lv_aload_n hx hb dX11_run_113 rfl (lv_at hl 0 rfl) ?_
        refine va_get (D := D.1) (ci := 8) (v := .ref a0_cut) (C := RX11) (T := TX11) (N := 9) hx hb hts hwX11 hown hK.1 hP 0 rfl rfl 3 (by decide) l30 (fun _ h9 => h9) rfl dX11_run_114 ?_
        refine lv_iload_n hx hb dX11_run_117 rfl (lv_at hl 1 rfl) ?_
        refine lv_iload_n hx hb dX11_run_118 rfl (lv_at hl 2 rfl) ?_
        refine lv_iconst (v := 5) hx hb dX11_run_119 (by decide) ?_
        refine lv_isub hx hb dX11_run_120 ?_
        obtain ⟨r6, hr6, hf⟩ := bd hf
        refine zVi (As := [.int p1, .int (p2 - (5 : Int32))]) (rest := []) (ci := 0) (q0 := 0) (wn := [(a0, .inr (8, [.ref a0_now, .ref a0_images, .ref a0_merges, .ref a0_cut, .ref a0_index, .ref a0_otherIndex, .ref a0_readWords, .ref a0_triedPattern, .ref a0_alike])), (a0_cut, .inr (0, [.ref a0_cut_signs, .ref a0_cut_starts, .ref a0_cut_lengths, .ref a0_cut_piecesOfRuns, .ref a0_cut_heads, .int v0_cut_size, .int v0_cut_runs, .int v0_cut_pieces, .int v0_cut_inRun])), (a0_cut_signs, .inl (D.2 1, 13, .inl g0_cut_signs)), (a0_cut_starts, .inl (D.2 1, 13, .inl g0_cut_starts)), (a0_cut_lengths, .inl (D.2 1, 13, .inl g0_cut_lengths)), (a0_cut_piecesOfRuns, .inl (D.2 1, 13, .inl g0_cut_piecesOfRuns)), (a0_cut_heads, .inl (D.2 2, 13, .inr (.inl g0_cut_heads))), (a0_index, .inr (2, [.ref a0_index_turns])), (a0_index_turns, .inr (5, [.ref a0_index_turns_rows, .int v0_index_turns_size])), (a0_index_turns_rows, .inl (D.2 2, 320, .inr (.inl g0_index_turns_rows)))]) ⟨hx, hb, hml, hown, hts⟩ (mX1_signOf l D a0_cut a0_cut_signs a0_cut_starts a0_cut_lengths a0_cut_piecesOfRuns a0_cut_heads H.size v0_cut_size v0_cut_runs v0_cut_pieces v0_cut_inRun g0_cut_signs g0_cut_starts g0_cut_lengths p1 (p2 - (5 : Int32)) r6 hr6) (cwV 2 hts gX11_run_X1_signOf rfl rfl rfl (by decide +kernel) ⟨Nat.le_of_ble_eq_true rfl, Nat.le_of_ble_eq_true rfl⟩) hK hP hD hS hA [1, 2, 3, 4] [0, 5, 6, 7, 8, 9] [0, 6, 7, 8, 9, 1, 2, 3, 4, 5] rfl (by decide) rfl (by decide) (by decide) rfl (by decide) rfl rfl rfl hl.1 rfl (Nat.le_of_ble_eq_true rfl) dX11_run_121 ⟨Nat.zero_le _, Nat.zero_le _⟩ (fun H locs hP hD hS => ?_)
        have he := Option.some.inj hf
        rw [hQ]
        exact W.iret (v := r6) hx hb hr (fun t ht hW => by rw [← he]; exact ⟨⟨r6, (), rfl, rfl, by rw [ht]; exact hP, hD⟩, hS.F ht⟩) hS.2.2 dX11_run_124
      · replace hf := im c_5 hf
        by_cases c_7 : p2 = 0
        · replace hf := ip c_7 hf
          refine lv_tableIn (tgt := 52) hx hb dX11_run_18 (by rw [c_7]; decide) (by rw [c_7]; decide) (off := 34) (by rw [c_7]; rfl) (by decide) ?_
          refine lv_aload_n hx hb dX11_run_52 rfl (lv_at hl 0 rfl) ?_
          refine va_get (D := D.1) (ci := 8) (v := .ref a0_cut) (C := RX11) (T := TX11) (N := 9) hx hb hts hwX11 hown hK.1 hP 0 rfl rfl 3 (by decide) l30 (fun _ h9 => h9) rfl dX11_run_53 ?_
          refine lv_iload_n hx hb dX11_run_56 rfl (lv_at hl 1 rfl) ?_
          obtain ⟨r8, hr8, hf⟩ := bd hf
          refine zVi (As := [.int p1]) (rest := []) (ci := 0) (q0 := 0) (wn := [(a0, .inr (8, [.ref a0_now, .ref a0_images, .ref a0_merges, .ref a0_cut, .ref a0_index, .ref a0_otherIndex, .ref a0_readWords, .ref a0_triedPattern, .ref a0_alike])), (a0_cut, .inr (0, [.ref a0_cut_signs, .ref a0_cut_starts, .ref a0_cut_lengths, .ref a0_cut_piecesOfRuns, .ref a0_cut_heads, .int v0_cut_size, .int v0_cut_runs, .int v0_cut_pieces, .int v0_cut_inRun])), (a0_cut_signs, .inl (D.2 1, 13, .inl g0_cut_signs)), (a0_cut_starts, .inl (D.2 1, 13, .inl g0_cut_starts)), (a0_cut_lengths, .inl (D.2 1, 13, .inl g0_cut_lengths)), (a0_cut_piecesOfRuns, .inl (D.2 1, 13, .inl g0_cut_piecesOfRuns)), (a0_cut_heads, .inl (D.2 2, 13, .inr (.inl g0_cut_heads))), (a0_index, .inr (2, [.ref a0_index_turns])), (a0_index_turns, .inr (5, [.ref a0_index_turns_rows, .int v0_index_turns_size])), (a0_index_turns_rows, .inl (D.2 2, 320, .inr (.inl g0_index_turns_rows)))]) ⟨hx, hb, hml, hown, hts⟩ (mX1_lengthOf l D a0_cut a0_cut_signs a0_cut_starts a0_cut_lengths a0_cut_piecesOfRuns a0_cut_heads H.size v0_cut_size v0_cut_runs v0_cut_pieces v0_cut_inRun g0_cut_lengths p1 r8 hr8) (cwV 1 hts gX11_run_X1_lengthOf rfl rfl rfl (by decide +kernel) ⟨Nat.le_of_ble_eq_true rfl, Nat.le_of_ble_eq_true rfl⟩) hK hP hD hS hA [1, 4] [0, 2, 3, 5, 6, 7, 8, 9] [0, 8, 1, 2, 9, 3, 4, 5, 6, 7] rfl (by decide) rfl (by decide) (by decide) rfl (by decide) rfl rfl rfl hl.1 rfl (Nat.le_of_ble_eq_true rfl) dX11_run_57 ⟨Nat.zero_le _, Nat.zero_le _⟩ (fun H locs hP hD hS => ?_)
          have he := Option.some.inj hf
          rw [hQ]
          exact W.iret (v := r8) hx hb hr (fun t ht hW => by rw [← he]; exact ⟨⟨r8, (), rfl, rfl, by rw [ht]; exact hP, hD⟩, hS.F ht⟩) hS.2.2 dX11_run_60
        replace hf := im c_7 hf
        by_cases c_9 : p2 = 1
        · replace hf := ip c_9 hf
          refine lv_tableIn (tgt := 61) hx hb dX11_run_18 (by rw [c_9]; decide) (by rw [c_9]; decide) (off := 43) (by rw [c_9]; rfl) (by decide) ?_
          refine lv_aload_n hx hb dX11_run_61 rfl (lv_at hl 0 rfl) ?_
          refine va_get (D := D.1) (ci := 8) (v := .ref a0_cut) (C := RX11) (T := TX11) (N := 9) hx hb hts hwX11 hown hK.1 hP 0 rfl rfl 3 (by decide) l30 (fun _ h9 => h9) rfl dX11_run_62 ?_
          refine lv_iload_n hx hb dX11_run_65 rfl (lv_at hl 1 rfl) ?_
          obtain ⟨r10, hr10, hf⟩ := bd hf
          refine zVi (As := [.int p1]) (rest := []) (ci := 0) (q0 := 0) (wn := [(a0, .inr (8, [.ref a0_now, .ref a0_images, .ref a0_merges, .ref a0_cut, .ref a0_index, .ref a0_otherIndex, .ref a0_readWords, .ref a0_triedPattern, .ref a0_alike])), (a0_cut, .inr (0, [.ref a0_cut_signs, .ref a0_cut_starts, .ref a0_cut_lengths, .ref a0_cut_piecesOfRuns, .ref a0_cut_heads, .int v0_cut_size, .int v0_cut_runs, .int v0_cut_pieces, .int v0_cut_inRun])), (a0_cut_signs, .inl (D.2 1, 13, .inl g0_cut_signs)), (a0_cut_starts, .inl (D.2 1, 13, .inl g0_cut_starts)), (a0_cut_lengths, .inl (D.2 1, 13, .inl g0_cut_lengths)), (a0_cut_piecesOfRuns, .inl (D.2 1, 13, .inl g0_cut_piecesOfRuns)), (a0_cut_heads, .inl (D.2 2, 13, .inr (.inl g0_cut_heads))), (a0_index, .inr (2, [.ref a0_index_turns])), (a0_index_turns, .inr (5, [.ref a0_index_turns_rows, .int v0_index_turns_size])), (a0_index_turns_rows, .inl (D.2 2, 320, .inr (.inl g0_index_turns_rows)))]) ⟨hx, hb, hml, hown, hts⟩ (mX1_pieceOf l D a0_cut a0_cut_signs a0_cut_starts a0_cut_lengths a0_cut_piecesOfRuns a0_cut_heads H.size v0_cut_size v0_cut_runs v0_cut_pieces v0_cut_inRun g0_cut_piecesOfRuns p1 r10 hr10) (cwV 1 hts gX11_run_X1_pieceOf rfl rfl rfl (by decide +kernel) ⟨Nat.le_of_ble_eq_true rfl, Nat.le_of_ble_eq_true rfl⟩) hK hP hD hS hA [1, 5] [0, 2, 3, 4, 6, 7, 8, 9] [0, 8, 1, 2, 3, 9, 4, 5, 6, 7] rfl (by decide) rfl (by decide) (by decide) rfl (by decide) rfl rfl rfl hl.1 rfl (Nat.le_of_ble_eq_true rfl) dX11_run_66 ⟨Nat.zero_le _, Nat.zero_le _⟩ (fun H locs hP hD hS => ?_)
          have he := Option.some.inj hf
          rw [hQ]
          exact W.iret (v := r10) hx hb hr (fun t ht hW => by rw [← he]; exact ⟨⟨r10, (), rfl, rfl, by rw [ht]; exact hP, hD⟩, hS.F ht⟩) hS.2.2 dX11_run_69
        replace hf := im c_9 hf
        by_cases c_11 : p2 = 2
        · replace hf := ip c_11 hf
          refine lv_tableIn (tgt := 70) hx hb dX11_run_18 (by rw [c_11]; decide) (by rw [c_11]; decide) (off := 52) (by rw [c_11]; rfl) (by decide) ?_
          refine lv_aload_n hx hb dX11_run_70 rfl (lv_at hl 0 rfl) ?_
          refine lv_iload_n hx hb dX11_run_71 rfl (lv_at hl 1 rfl) ?_
          obtain ⟨r12, hr12, hf⟩ := bd hf
          refine zVi (As := [.int p1]) (rest := []) (ci := 8) (q0 := 0) (wn := [(a0, .inr (8, [.ref a0_now, .ref a0_images, .ref a0_merges, .ref a0_cut, .ref a0_index, .ref a0_otherIndex, .ref a0_readWords, .ref a0_triedPattern, .ref a0_alike])), (a0_cut, .inr (0, [.ref a0_cut_signs, .ref a0_cut_starts, .ref a0_cut_lengths, .ref a0_cut_piecesOfRuns, .ref a0_cut_heads, .int v0_cut_size, .int v0_cut_runs, .int v0_cut_pieces, .int v0_cut_inRun])), (a0_cut_signs, .inl (D.2 1, 13, .inl g0_cut_signs)), (a0_cut_starts, .inl (D.2 1, 13, .inl g0_cut_starts)), (a0_cut_lengths, .inl (D.2 1, 13, .inl g0_cut_lengths)), (a0_cut_piecesOfRuns, .inl (D.2 1, 13, .inl g0_cut_piecesOfRuns)), (a0_cut_heads, .inl (D.2 2, 13, .inr (.inl g0_cut_heads))), (a0_index, .inr (2, [.ref a0_index_turns])), (a0_index_turns, .inr (5, [.ref a0_index_turns_rows, .int v0_index_turns_size])), (a0_index_turns_rows, .inl (D.2 2, 320, .inr (.inl g0_index_turns_rows)))]) ⟨hx, hb, hml, hown, hts⟩ (mX11_rangeSize l D a0 a0_now a0_images a0_merges a0_cut a0_index a0_otherIndex a0_readWords a0_triedPattern a0_alike a0_cut_signs a0_cut_starts a0_cut_lengths a0_cut_piecesOfRuns a0_cut_heads a0_index_turns a0_index_turns_rows H.size v0_cut_size v0_cut_runs v0_cut_pieces v0_cut_inRun g0_cut_lengths g0_cut_heads v0_index_turns_size g0_index_turns_rows p1 N r12 hr12) (cwV 1 hts gX11_run_X11_rangeSize rfl rfl rfl (by decide +kernel) ⟨Nat.le_of_ble_eq_true rfl, Nat.le_of_ble_eq_true rfl⟩) hK hP hD hS hA [0, 1, 4, 6, 7, 8, 9] [2, 3, 5] [3, 4, 0, 1, 5, 2, 6, 7, 8, 9] rfl (by decide) rfl (by decide) (by decide) rfl (by decide) rfl rfl rfl hl.1 rfl (Nat.le_of_ble_eq_true rfl) dX11_run_72 ⟨Nat.zero_le _, Nat.zero_le _⟩ (fun H locs hP hD hS => ?_)
          refine lv_if_ne (tgt := 82) hx hb dX11_run_75 (by decide) (fun c_13 => ?_) (fun c_13 => ?_)
          · replace hf := im c_13 hf
            refine lv_aload_n hx hb dX11_run_82 rfl (lv_at hl 0 rfl) ?_
            refine va_get (D := D.1) (ci := 8) (v := .ref a0_index) (C := RX11) (T := TX11) (N := 9) hx hb hts hwX11 hown hK.1 hP 0 rfl rfl 4 (by decide) l45 (fun _ h9 => h9) rfl dX11_run_83 ?_
            refine lv_aload_n hx hb dX11_run_86 rfl (lv_at hl 0 rfl) ?_
            refine va_get (D := D.1) (ci := 8) (v := .ref a0_cut) (C := RX11) (T := TX11) (N := 9) hx hb hts hwX11 hown hK.1 hP 0 rfl rfl 3 (by decide) l30 (fun _ h9 => h9) rfl dX11_run_87 ?_
            refine lv_iload_n hx hb dX11_run_90 rfl (lv_at hl 1 rfl) ?_
            obtain ⟨r14, hr14, hf⟩ := bd hf
            refine zVl (As := [.int p1]) (rest := [.ref a0_index]) (ci := 0) (q0 := 0) (wn := [(a0, .inr (8, [.ref a0_now, .ref a0_images, .ref a0_merges, .ref a0_cut, .ref a0_index, .ref a0_otherIndex, .ref a0_readWords, .ref a0_triedPattern, .ref a0_alike])), (a0_cut, .inr (0, [.ref a0_cut_signs, .ref a0_cut_starts, .ref a0_cut_lengths, .ref a0_cut_piecesOfRuns, .ref a0_cut_heads, .int v0_cut_size, .int v0_cut_runs, .int v0_cut_pieces, .int v0_cut_inRun])), (a0_cut_signs, .inl (D.2 1, 13, .inl g0_cut_signs)), (a0_cut_starts, .inl (D.2 1, 13, .inl g0_cut_starts)), (a0_cut_lengths, .inl (D.2 1, 13, .inl g0_cut_lengths)), (a0_cut_piecesOfRuns, .inl (D.2 1, 13, .inl g0_cut_piecesOfRuns)), (a0_cut_heads, .inl (D.2 2, 13, .inr (.inl g0_cut_heads))), (a0_index, .inr (2, [.ref a0_index_turns])), (a0_index_turns, .inr (5, [.ref a0_index_turns_rows, .int v0_index_turns_size])), (a0_index_turns_rows, .inl (D.2 2, 320, .inr (.inl g0_index_turns_rows)))]) ⟨hx, hb, hml, hown, hts⟩ (mX1_headOf l D a0_cut a0_cut_signs a0_cut_starts a0_cut_lengths a0_cut_piecesOfRuns a0_cut_heads H.size v0_cut_size v0_cut_runs v0_cut_pieces v0_cut_inRun g0_cut_heads p1 r14 hr14) (cwV 1 hts gX11_run_X1_headOf rfl rfl rfl (by decide +kernel) ⟨Nat.le_of_ble_eq_true rfl, Nat.le_of_ble_eq_true rfl⟩) hK hP hD hS hA [1, 6] [0, 2, 3, 4, 5, 7, 8, 9] [0, 8, 1, 2, 3, 4, 9, 5, 6, 7] rfl (by decide) rfl (by decide) (by decide) rfl (by decide) rfl rfl rfl hl.1 rfl (Nat.le_of_ble_eq_true rfl) dX11_run_91 ⟨Nat.zero_le _, Nat.zero_le _⟩ (fun H locs hP hD hS => ?_)
            obtain ⟨r15, hr15, hf⟩ := bd hf
            refine zVi (As := [.long r14]) (rest := []) (ci := 2) (q0 := 0) (wn := [(a0, .inr (8, [.ref a0_now, .ref a0_images, .ref a0_merges, .ref a0_cut, .ref a0_index, .ref a0_otherIndex, .ref a0_readWords, .ref a0_triedPattern, .ref a0_alike])), (a0_cut, .inr (0, [.ref a0_cut_signs, .ref a0_cut_starts, .ref a0_cut_lengths, .ref a0_cut_piecesOfRuns, .ref a0_cut_heads, .int v0_cut_size, .int v0_cut_runs, .int v0_cut_pieces, .int v0_cut_inRun])), (a0_cut_signs, .inl (D.2 1, 13, .inl g0_cut_signs)), (a0_cut_starts, .inl (D.2 1, 13, .inl g0_cut_starts)), (a0_cut_lengths, .inl (D.2 1, 13, .inl g0_cut_lengths)), (a0_cut_piecesOfRuns, .inl (D.2 1, 13, .inl g0_cut_piecesOfRuns)), (a0_cut_heads, .inl (D.2 2, 13, .inr (.inl g0_cut_heads))), (a0_index, .inr (2, [.ref a0_index_turns])), (a0_index_turns, .inr (5, [.ref a0_index_turns_rows, .int v0_index_turns_size])), (a0_index_turns_rows, .inl (D.2 2, 320, .inr (.inl g0_index_turns_rows)))]) ⟨hx, hb, hml, hown, hts⟩ (mX3_from l D a0_index a0_index_turns a0_index_turns_rows H.size v0_index_turns_size g0_index_turns_rows r14 N r15 hr15) (cwV 1 hts gX11_run_X3_from rfl rfl rfl (by decide +kernel) ⟨Nat.le_of_ble_eq_true rfl, Nat.le_of_ble_eq_true rfl⟩) hK hP hD hS hA [7, 8, 9] [0, 1, 2, 3, 4, 5, 6] [0, 1, 2, 3, 4, 5, 6, 7, 8, 9] rfl (by decide) rfl (by decide) (by decide) rfl (by decide) rfl rfl rfl hl.1 rfl (Nat.le_of_ble_eq_true rfl) dX11_run_94 ⟨Nat.zero_le _, Nat.zero_le _⟩ (fun H locs hP hD hS => ?_)
            have he := Option.some.inj hf
            rw [hQ]
            exact W.iret (v := r15) hx hb hr (fun t ht hW => by rw [← he]; exact ⟨⟨r15, (), rfl, rfl, by rw [ht]; exact hP, hD⟩, hS.F ht⟩) hS.2.2 dX11_run_97
          · replace hf := ip c_13 hf
            refine lv_iconst (v := -1) hx hb dX11_run_78 (by decide) ?_
            refine lv_goto (tgt := 97) hx hb dX11_run_79 (by decide) ?_
            have he := Option.some.inj hf
            rw [hQ]
            exact W.iret (v := (-1 : Int32)) hx hb hr (fun t ht hW => by rw [← he]; exact ⟨⟨(-1 : Int32), (), rfl, rfl, by rw [ht]; exact hP, hD⟩, hS.F ht⟩) hS.2.2 dX11_run_97
        replace hf := im c_11 hf
        by_cases c_16 : p2 = 3
        · replace hf := ip c_16 hf
          refine lv_tableIn (tgt := 98) hx hb dX11_run_18 (by rw [c_16]; decide) (by rw [c_16]; decide) (off := 80) (by rw [c_16]; rfl) (by decide) ?_
          refine lv_aload_n hx hb dX11_run_98 rfl (lv_at hl 0 rfl) ?_
          refine lv_iload_n hx hb dX11_run_99 rfl (lv_at hl 1 rfl) ?_
          obtain ⟨r17, hr17, hf⟩ := bd hf
          refine zVi (As := [.int p1]) (rest := []) (ci := 8) (q0 := 0) (wn := [(a0, .inr (8, [.ref a0_now, .ref a0_images, .ref a0_merges, .ref a0_cut, .ref a0_index, .ref a0_otherIndex, .ref a0_readWords, .ref a0_triedPattern, .ref a0_alike])), (a0_cut, .inr (0, [.ref a0_cut_signs, .ref a0_cut_starts, .ref a0_cut_lengths, .ref a0_cut_piecesOfRuns, .ref a0_cut_heads, .int v0_cut_size, .int v0_cut_runs, .int v0_cut_pieces, .int v0_cut_inRun])), (a0_cut_signs, .inl (D.2 1, 13, .inl g0_cut_signs)), (a0_cut_starts, .inl (D.2 1, 13, .inl g0_cut_starts)), (a0_cut_lengths, .inl (D.2 1, 13, .inl g0_cut_lengths)), (a0_cut_piecesOfRuns, .inl (D.2 1, 13, .inl g0_cut_piecesOfRuns)), (a0_cut_heads, .inl (D.2 2, 13, .inr (.inl g0_cut_heads))), (a0_index, .inr (2, [.ref a0_index_turns])), (a0_index_turns, .inr (5, [.ref a0_index_turns_rows, .int v0_index_turns_size])), (a0_index_turns_rows, .inl (D.2 2, 320, .inr (.inl g0_index_turns_rows)))]) ⟨hx, hb, hml, hown, hts⟩ (mX11_rangeSize l D a0 a0_now a0_images a0_merges a0_cut a0_index a0_otherIndex a0_readWords a0_triedPattern a0_alike a0_cut_signs a0_cut_starts a0_cut_lengths a0_cut_piecesOfRuns a0_cut_heads a0_index_turns a0_index_turns_rows H.size v0_cut_size v0_cut_runs v0_cut_pieces v0_cut_inRun g0_cut_lengths g0_cut_heads v0_index_turns_size g0_index_turns_rows p1 N r17 hr17) (cwV 1 hts gX11_run_X11_rangeSize rfl rfl rfl (by decide +kernel) ⟨Nat.le_of_ble_eq_true rfl, Nat.le_of_ble_eq_true rfl⟩) hK hP hD hS hA [0, 1, 4, 6, 7, 8, 9] [2, 3, 5] [3, 4, 0, 1, 5, 2, 6, 7, 8, 9] rfl (by decide) rfl (by decide) (by decide) rfl (by decide) rfl rfl rfl hl.1 rfl (Nat.le_of_ble_eq_true rfl) dX11_run_100 ⟨Nat.zero_le _, Nat.zero_le _⟩ (fun H locs hP hD hS => ?_)
          have he := Option.some.inj hf
          rw [hQ]
          exact W.iret (v := r17) hx hb hr (fun t ht hW => by rw [← he]; exact ⟨⟨r17, (), rfl, rfl, by rw [ht]; exact hP, hD⟩, hS.F ht⟩) hS.2.2 dX11_run_103
        replace hf := im c_16 hf
        by_cases c_18 : p2 = 4
        · replace hf := ip c_18 hf
          refine lv_tableIn (tgt := 104) hx hb dX11_run_18 (by rw [c_18]; decide) (by rw [c_18]; decide) (off := 86) (by rw [c_18]; rfl) (by decide) ?_
          refine lv_aload_n hx hb dX11_run_104 rfl (lv_at hl 0 rfl) ?_
          refine lv_iload_n hx hb dX11_run_105 rfl (lv_at hl 1 rfl) ?_
          obtain ⟨r19, hr19, hf⟩ := bd hf
          refine zVl (As := [.int p1]) (rest := []) (ci := 8) (q0 := 0) (wn := [(a0, .inr (8, [.ref a0_now, .ref a0_images, .ref a0_merges, .ref a0_cut, .ref a0_index, .ref a0_otherIndex, .ref a0_readWords, .ref a0_triedPattern, .ref a0_alike])), (a0_cut, .inr (0, [.ref a0_cut_signs, .ref a0_cut_starts, .ref a0_cut_lengths, .ref a0_cut_piecesOfRuns, .ref a0_cut_heads, .int v0_cut_size, .int v0_cut_runs, .int v0_cut_pieces, .int v0_cut_inRun])), (a0_cut_signs, .inl (D.2 1, 13, .inl g0_cut_signs)), (a0_cut_starts, .inl (D.2 1, 13, .inl g0_cut_starts)), (a0_cut_lengths, .inl (D.2 1, 13, .inl g0_cut_lengths)), (a0_cut_piecesOfRuns, .inl (D.2 1, 13, .inl g0_cut_piecesOfRuns)), (a0_cut_heads, .inl (D.2 2, 13, .inr (.inl g0_cut_heads))), (a0_index, .inr (2, [.ref a0_index_turns])), (a0_index_turns, .inr (5, [.ref a0_index_turns_rows, .int v0_index_turns_size])), (a0_index_turns_rows, .inl (D.2 2, 320, .inr (.inl g0_index_turns_rows)))]) ⟨hx, hb, hml, hown, hts⟩ (mX11_wordsOfRun l D a0 a0_now a0_images a0_merges a0_cut a0_index a0_otherIndex a0_readWords a0_triedPattern a0_alike a0_cut_signs a0_cut_starts a0_cut_lengths a0_cut_piecesOfRuns a0_cut_heads a0_index_turns a0_index_turns_rows H.size v0_cut_size v0_cut_runs v0_cut_pieces v0_cut_inRun g0_cut_lengths g0_cut_heads v0_index_turns_size g0_index_turns_rows p1 N r19 hr19) (cwV 1 hts gX11_run_X11_wordsOfRun rfl rfl rfl (by decide +kernel) ⟨Nat.le_of_ble_eq_true rfl, Nat.le_of_ble_eq_true rfl⟩) hK hP hD hS hA [0, 1, 4, 6, 7, 8, 9] [2, 3, 5] [3, 4, 0, 1, 5, 2, 6, 7, 8, 9] rfl (by decide) rfl (by decide) (by decide) rfl (by decide) rfl rfl rfl hl.1 rfl (Nat.le_of_ble_eq_true rfl) dX11_run_106 ⟨Nat.zero_le _, Nat.zero_le _⟩ (fun H locs hP hD hS => ?_)
          obtain ⟨r20, hr20, hf⟩ := bd hf
          refine zSi (As := [.long r19]) (rest := []) (wn := [(a0, .inr (8, [.ref a0_now, .ref a0_images, .ref a0_merges, .ref a0_cut, .ref a0_index, .ref a0_otherIndex, .ref a0_readWords, .ref a0_triedPattern, .ref a0_alike])), (a0_cut, .inr (0, [.ref a0_cut_signs, .ref a0_cut_starts, .ref a0_cut_lengths, .ref a0_cut_piecesOfRuns, .ref a0_cut_heads, .int v0_cut_size, .int v0_cut_runs, .int v0_cut_pieces, .int v0_cut_inRun])), (a0_cut_signs, .inl (D.2 1, 13, .inl g0_cut_signs)), (a0_cut_starts, .inl (D.2 1, 13, .inl g0_cut_starts)), (a0_cut_lengths, .inl (D.2 1, 13, .inl g0_cut_lengths)), (a0_cut_piecesOfRuns, .inl (D.2 1, 13, .inl g0_cut_piecesOfRuns)), (a0_cut_heads, .inl (D.2 2, 13, .inr (.inl g0_cut_heads))), (a0_index, .inr (2, [.ref a0_index_turns])), (a0_index_turns, .inr (5, [.ref a0_index_turns_rows, .int v0_index_turns_size])), (a0_index_turns_rows, .inl (D.2 2, 320, .inr (.inl g0_index_turns_rows)))]) ⟨hx, hb, hml, hown, hts⟩ (mJ13_bitCount_95d88 l D H.size r19 r20 hr20) (va_cwS 1 hts gX11_run_J13_bitCount_95d88 rfl rfl rfl (by decide +kernel) ⟨Nat.le_of_ble_eq_true rfl, Nat.le_of_ble_eq_true rfl⟩) hK hP hD hS hA [] [0, 1, 2, 3, 4, 5, 6, 7, 8, 9] [0, 1, 2, 3, 4, 5, 6, 7, 8, 9] rfl (by decide) rfl (by decide) (by decide) rfl (by decide) rfl hl.1 rfl (Nat.le_of_ble_eq_true rfl) dX11_run_109 ⟨Nat.zero_le _, Nat.zero_le _⟩ (fun H locs hP hD hS => ?_)
          have he := Option.some.inj hf
          rw [hQ]
          exact W.iret (v := r20) hx hb hr (fun t ht hW => by rw [← he]; exact ⟨⟨r20, (), rfl, rfl, by rw [ht]; exact hP, hD⟩, hS.F ht⟩) hS.2.2 dX11_run_112
        replace hf := im c_18 hf
        cases hf
    · replace hf := im c_4 hf
      refine lv_iconst (v := -1) hx hb dX11_run_15 (by decide) ?_
      have he := Option.some.inj hf
      rw [hQ]
      exact W.iret (v := (-1 : Int32)) hx hb hr (fun t ht hW => by rw [← he]; exact ⟨⟨(-1 : Int32), (), rfl, rfl, by rw [ht]; exact hP, hD⟩, hS.F ht⟩) hS.2.2 dX11_run_16
def fX11_of (N : Nat) (v0_cut_runs : Int32) (g0_cut_lengths : Nat → Int32) (g0_cut_heads : Nat → Int64) (v0_index_turns_size : Int32) (g0_index_turns_rows : Nat → Int64) (p1 : Int32) (p2 : Int32) : Option (Int32) :=
  Option.bind (fX1_hasRun v0_cut_runs p1) fun r1 =>
  if r1 = (0 : Int32) then
    some ((-1 : Int32))
  else
    Option.bind (fX11_wordsOfRun N v0_cut_runs g0_cut_lengths g0_cut_heads v0_index_turns_size g0_index_turns_rows p1) fun r4 =>
    Option.bind (fX0_numberOf N r4 p2) fun r5 =>
    some (r5)
set_option maxHeartbeats 4000000 in
set_option maxRecDepth 100000 in
theorem mX11_of (l : Launch) (D : zG) (a0 : Nat) (a0_now : Nat) (a0_images : Nat) (a0_merges : Nat) (a0_cut : Nat) (a0_index : Nat) (a0_otherIndex : Nat) (a0_readWords : Nat) (a0_triedPattern : Nat) (a0_alike : Nat) (a0_cut_signs : Nat) (a0_cut_starts : Nat) (a0_cut_lengths : Nat) (a0_cut_piecesOfRuns : Nat) (a0_cut_heads : Nat) (a0_index_turns : Nat) (a0_index_turns_rows : Nat) (sz : Nat)  (v0_cut_size : Int32) (v0_cut_runs : Int32) (v0_cut_pieces : Int32) (v0_cut_inRun : Int32) (g0_cut_lengths : Nat → Int32) (g0_cut_heads : Nat → Int64) (v0_index_turns_size : Int32) (g0_index_turns_rows : Nat → Int64) (p1 : Int32) (p2 : Int32) (N : Nat) (res : Int32) (hf : fX11_of N v0_cut_runs g0_cut_lengths g0_cut_heads v0_index_turns_size g0_index_turns_rows p1 p2 = some res) : Met l yX11_of wsX11_of ({ frames := 5, cells := 0, slots := 0, locals := 118 } : Room) (va_Pc [.ref a0, .int p1, .int p2] (zW D sz [(a0, .inr (8, [.ref a0_now, .ref a0_images, .ref a0_merges, .ref a0_cut, .ref a0_index, .ref a0_otherIndex, .ref a0_readWords, .ref a0_triedPattern, .ref a0_alike])), (a0_cut, .inr (0, [.ref a0_cut_signs, .ref a0_cut_starts, .ref a0_cut_lengths, .ref a0_cut_piecesOfRuns, .ref a0_cut_heads, .int v0_cut_size, .int v0_cut_runs, .int v0_cut_pieces, .int v0_cut_inRun])), (a0_cut_lengths, .inl (D.2 1, 13, .inl g0_cut_lengths)), (a0_cut_heads, .inl (D.2 2, 13, .inr (.inl g0_cut_heads))), (a0_index, .inr (2, [.ref a0_index_turns])), (a0_index_turns, .inr (5, [.ref a0_index_turns_rows, .int v0_index_turns_size])), (a0_index_turns_rows, .inl (D.2 2, 320, .inr (.inl g0_index_turns_rows)))])) (va_Qi (fun r (_ : Unit) => r = res) (fun _ => zB D (va_A [(a0, .inr (8, [.ref a0_now, .ref a0_images, .ref a0_merges, .ref a0_cut, .ref a0_index, .ref a0_otherIndex, .ref a0_readWords, .ref a0_triedPattern, .ref a0_alike])), (a0_cut, .inr (0, [.ref a0_cut_signs, .ref a0_cut_starts, .ref a0_cut_lengths, .ref a0_cut_piecesOfRuns, .ref a0_cut_heads, .int v0_cut_size, .int v0_cut_runs, .int v0_cut_pieces, .int v0_cut_inRun])), (a0_cut_lengths, .inl (D.2 1, 13, .inl g0_cut_lengths)), (a0_cut_heads, .inl (D.2 2, 13, .inr (.inl g0_cut_heads))), (a0_index, .inr (2, [.ref a0_index_turns])), (a0_index_turns, .inr (5, [.ref a0_index_turns_rows, .int v0_index_turns_size])), (a0_index_turns_rows, .inl (D.2 2, 320, .inr (.inl g0_index_turns_rows)))] sz) [(a0, .inr (8, [.ref a0_now, .ref a0_images, .ref a0_merges, .ref a0_cut, .ref a0_index, .ref a0_otherIndex, .ref a0_readWords, .ref a0_triedPattern, .ref a0_alike])), (a0_cut, .inr (0, [.ref a0_cut_signs, .ref a0_cut_starts, .ref a0_cut_lengths, .ref a0_cut_piecesOfRuns, .ref a0_cut_heads, .int v0_cut_size, .int v0_cut_runs, .int v0_cut_pieces, .int v0_cut_inRun])), (a0_cut_lengths, .inl (D.2 1, 13, .inl g0_cut_lengths)), (a0_cut_heads, .inl (D.2 2, 13, .inr (.inl g0_cut_heads))), (a0_index, .inr (2, [.ref a0_index_turns])), (a0_index_turns, .inr (5, [.ref a0_index_turns_rows, .int v0_index_turns_size])), (a0_index_turns_rows, .inl (D.2 2, 320, .inr (.inl g0_index_turns_rows)))]) (va_A [(a0, .inr (8, [.ref a0_now, .ref a0_images, .ref a0_merges, .ref a0_cut, .ref a0_index, .ref a0_otherIndex, .ref a0_readWords, .ref a0_triedPattern, .ref a0_alike])), (a0_cut, .inr (0, [.ref a0_cut_signs, .ref a0_cut_starts, .ref a0_cut_lengths, .ref a0_cut_piecesOfRuns, .ref a0_cut_heads, .int v0_cut_size, .int v0_cut_runs, .int v0_cut_pieces, .int v0_cut_inRun])), (a0_cut_lengths, .inl (D.2 1, 13, .inl g0_cut_lengths)), (a0_cut_heads, .inl (D.2 2, 13, .inr (.inl g0_cut_heads))), (a0_index, .inr (2, [.ref a0_index_turns])), (a0_index_turns, .inr (5, [.ref a0_index_turns_rows, .int v0_index_turns_size])), (a0_index_turns_rows, .inl (D.2 2, 320, .inr (.inl g0_index_turns_rows)))] sz)) 0 0 (va_A [(a0, .inr (8, [.ref a0_now, .ref a0_images, .ref a0_merges, .ref a0_cut, .ref a0_index, .ref a0_otherIndex, .ref a0_readWords, .ref a0_triedPattern, .ref a0_alike])), (a0_cut, .inr (0, [.ref a0_cut_signs, .ref a0_cut_starts, .ref a0_cut_lengths, .ref a0_cut_piecesOfRuns, .ref a0_cut_heads, .int v0_cut_size, .int v0_cut_runs, .int v0_cut_pieces, .int v0_cut_inRun])), (a0_cut_lengths, .inl (D.2 1, 13, .inl g0_cut_lengths)), (a0_cut_heads, .inl (D.2 2, 13, .inr (.inl g0_cut_heads))), (a0_index, .inr (2, [.ref a0_index_turns])), (a0_index_turns, .inr (5, [.ref a0_index_turns_rows, .int v0_index_turns_size])), (a0_index_turns_rows, .inl (D.2 2, 320, .inr (.inl g0_index_turns_rows)))] sz) := by
  refine Met.ofW (cc := cX11_of) (maxL := 3) (ret := (some .int)) (by decide) rfl ?_
  intro p e s m args below meth c s₁ B hml hv
  obtain ⟨rfl, hsz, hP, hK, hD0⟩ := hv
  have hx := B.exec
  have hb := B.bytes
  have hr := B.returns
  have hts := atoms_spec (ws := wsX11_of) B.pre
  have hown : s.vm.findClass RX11 = some m.cls := findClass_of_methodNamed B.named
  have hlocks := B.notSynchronized
  subst hsz
  have hD := hD0.self (sz := s.heap.size)
  generalize hAe : va_A [(a0, .inr (8, [.ref a0_now, .ref a0_images, .ref a0_merges, .ref a0_cut, .ref a0_index, .ref a0_otherIndex, .ref a0_readWords, .ref a0_triedPattern, .ref a0_alike])), (a0_cut, .inr (0, [.ref a0_cut_signs, .ref a0_cut_starts, .ref a0_cut_lengths, .ref a0_cut_piecesOfRuns, .ref a0_cut_heads, .int v0_cut_size, .int v0_cut_runs, .int v0_cut_pieces, .int v0_cut_inRun])), (a0_cut_lengths, .inl (D.2 1, 13, .inl g0_cut_lengths)), (a0_cut_heads, .inl (D.2 2, 13, .inr (.inl g0_cut_heads))), (a0_index, .inr (2, [.ref a0_index_turns])), (a0_index_turns, .inr (5, [.ref a0_index_turns_rows, .int v0_index_turns_size])), (a0_index_turns_rows, .inl (D.2 2, 320, .inr (.inl g0_index_turns_rows)))] s.heap.size = A at hD ⊢
  have hA : ∀ q : Nat, s.heap.size ≤ q → A q := fun q h => by rw [← hAe]; exact Or.inr h
  have l30 := zat hts 1 (w := .fieldLink RX11 30 "TurnedWords" "cut" "LTurnedWords$Cut;") rfl
  have hwX11 : ∀ w ∈ u_ws RX11 TX11 9, w ∈ wsX11_of := fun w h => List.mem_cons_of_mem _ (List.mem_append_left _ (List.mem_append_left _ (List.mem_append_left _ (List.mem_append_right _ h))))
  have hl := lv_entry ([.ref a0, .int p1, .int p2]) (n := 3) (Nat.le_of_ble_eq_true rfl)
  rw [lg_entry_eq]
  generalize (lg_sl ([.ref a0, .int p1, .int p2]) ++ List.replicate (3 - (lg_sl ([.ref a0, .int p1, .int p2])).length) Slot.unset).toArray = ls at hl ⊢
  have hl : lv_has ls 3 [(0, .ref a0), (1, .int p1), (2, .int p2)] := hl
  refine zStart (A := A) hP (fun Q0 H locs hQ hP hS => ?_)
  unfold fX11_of at hf
  refine lv_aload_n hx hb dX11_of_0 rfl (lv_at hl 0 rfl) ?_
  refine va_get (D := D.1) (ci := 8) (v := .ref a0_cut) (C := RX11) (T := TX11) (N := 9) hx hb hts hwX11 hown hK.1 hP 0 rfl rfl 3 (by decide) l30 (fun _ h9 => h9) rfl dX11_of_1 ?_
  refine lv_iload_n hx hb dX11_of_4 rfl (lv_at hl 1 rfl) ?_
  obtain ⟨r1, hr1, hf⟩ := bd hf
  refine zVz (As := [.int p1]) (rest := []) (ci := 0) (q0 := 0) (wn := [(a0, .inr (8, [.ref a0_now, .ref a0_images, .ref a0_merges, .ref a0_cut, .ref a0_index, .ref a0_otherIndex, .ref a0_readWords, .ref a0_triedPattern, .ref a0_alike])), (a0_cut, .inr (0, [.ref a0_cut_signs, .ref a0_cut_starts, .ref a0_cut_lengths, .ref a0_cut_piecesOfRuns, .ref a0_cut_heads, .int v0_cut_size, .int v0_cut_runs, .int v0_cut_pieces, .int v0_cut_inRun])), (a0_cut_lengths, .inl (D.2 1, 13, .inl g0_cut_lengths)), (a0_cut_heads, .inl (D.2 2, 13, .inr (.inl g0_cut_heads))), (a0_index, .inr (2, [.ref a0_index_turns])), (a0_index_turns, .inr (5, [.ref a0_index_turns_rows, .int v0_index_turns_size])), (a0_index_turns_rows, .inl (D.2 2, 320, .inr (.inl g0_index_turns_rows)))]) ⟨hx, hb, hml, hown, hts⟩ (mX1_hasRun l D a0_cut a0_cut_signs a0_cut_starts a0_cut_lengths a0_cut_piecesOfRuns a0_cut_heads H.size v0_cut_size v0_cut_runs v0_cut_pieces v0_cut_inRun p1 r1 hr1) (cwV 1 hts gX11_of_X1_hasRun rfl rfl rfl (by decide +kernel) ⟨Nat.le_of_ble_eq_true rfl, Nat.le_of_ble_eq_true rfl⟩) hK hP hD hS hA [1] [0, 2, 3, 4, 5, 6] [0, 6, 1, 2, 3, 4, 5] rfl (by decide) rfl (by decide) (by decide) rfl (by decide) rfl rfl rfl hl.1 rfl (Nat.le_of_ble_eq_true rfl) dX11_of_5 ⟨Nat.zero_le _, Nat.zero_le _⟩ (fun H locs hb_2 hP hD hS => ?_)
  refine lv_if_eq (tgt := 23) hx hb dX11_of_8 (by decide) (fun c_3 => ?_) (fun c_3 => ?_)
  · replace hf := ip c_3 hf
    refine lv_iconst (v := -1) hx hb dX11_of_23 (by decide) ?_
    have he := Option.some.inj hf
    rw [hQ]
    exact W.iret (v := (-1 : Int32)) hx hb hr (fun t ht hW => by rw [← he]; exact ⟨⟨(-1 : Int32), (), rfl, rfl, by rw [ht]; exact hP, hD⟩, hS.F ht⟩) hS.2.2 dX11_of_24
  · replace hf := im c_3 hf
    refine lv_aload_n hx hb dX11_of_11 rfl (lv_at hl 0 rfl) ?_
    refine lv_iload_n hx hb dX11_of_12 rfl (lv_at hl 1 rfl) ?_
    obtain ⟨r4, hr4, hf⟩ := bd hf
    refine zVl (As := [.int p1]) (rest := []) (ci := 8) (q0 := 0) (wn := [(a0, .inr (8, [.ref a0_now, .ref a0_images, .ref a0_merges, .ref a0_cut, .ref a0_index, .ref a0_otherIndex, .ref a0_readWords, .ref a0_triedPattern, .ref a0_alike])), (a0_cut, .inr (0, [.ref a0_cut_signs, .ref a0_cut_starts, .ref a0_cut_lengths, .ref a0_cut_piecesOfRuns, .ref a0_cut_heads, .int v0_cut_size, .int v0_cut_runs, .int v0_cut_pieces, .int v0_cut_inRun])), (a0_cut_lengths, .inl (D.2 1, 13, .inl g0_cut_lengths)), (a0_cut_heads, .inl (D.2 2, 13, .inr (.inl g0_cut_heads))), (a0_index, .inr (2, [.ref a0_index_turns])), (a0_index_turns, .inr (5, [.ref a0_index_turns_rows, .int v0_index_turns_size])), (a0_index_turns_rows, .inl (D.2 2, 320, .inr (.inl g0_index_turns_rows)))]) ⟨hx, hb, hml, hown, hts⟩ (mX11_wordsOfRun l D a0 a0_now a0_images a0_merges a0_cut a0_index a0_otherIndex a0_readWords a0_triedPattern a0_alike a0_cut_signs a0_cut_starts a0_cut_lengths a0_cut_piecesOfRuns a0_cut_heads a0_index_turns a0_index_turns_rows H.size v0_cut_size v0_cut_runs v0_cut_pieces v0_cut_inRun g0_cut_lengths g0_cut_heads v0_index_turns_size g0_index_turns_rows p1 N r4 hr4) (cwV 1 hts gX11_of_X11_wordsOfRun rfl rfl rfl (by decide +kernel) ⟨Nat.le_of_ble_eq_true rfl, Nat.le_of_ble_eq_true rfl⟩) hK hP hD hS hA [0, 1, 2, 3, 4, 5, 6] [] [0, 1, 2, 3, 4, 5, 6] rfl (by decide) rfl (by decide) (by decide) rfl (by decide) rfl rfl rfl hl.1 rfl (Nat.le_of_ble_eq_true rfl) dX11_of_13 ⟨Nat.zero_le _, Nat.zero_le _⟩ (fun H locs hP hD hS => ?_)
    refine lv_iload_n hx hb dX11_of_16 rfl (lv_at hl 2 rfl) ?_
    obtain ⟨r5, hr5, hf⟩ := bd hf
    refine zSi (As := [.long r4, .int p2]) (rest := []) (wn := [(a0, .inr (8, [.ref a0_now, .ref a0_images, .ref a0_merges, .ref a0_cut, .ref a0_index, .ref a0_otherIndex, .ref a0_readWords, .ref a0_triedPattern, .ref a0_alike])), (a0_cut, .inr (0, [.ref a0_cut_signs, .ref a0_cut_starts, .ref a0_cut_lengths, .ref a0_cut_piecesOfRuns, .ref a0_cut_heads, .int v0_cut_size, .int v0_cut_runs, .int v0_cut_pieces, .int v0_cut_inRun])), (a0_cut_lengths, .inl (D.2 1, 13, .inl g0_cut_lengths)), (a0_cut_heads, .inl (D.2 2, 13, .inr (.inl g0_cut_heads))), (a0_index, .inr (2, [.ref a0_index_turns])), (a0_index_turns, .inr (5, [.ref a0_index_turns_rows, .int v0_index_turns_size])), (a0_index_turns_rows, .inl (D.2 2, 320, .inr (.inl g0_index_turns_rows)))]) ⟨hx, hb, hml, hown, hts⟩ (mX0_numberOf l D H.size r4 p2 N r5 hr5) (va_cwS 2 hts gX11_of_X0_numberOf rfl rfl rfl (by decide +kernel) ⟨Nat.le_of_ble_eq_true rfl, Nat.le_of_ble_eq_true rfl⟩) hK hP hD hS hA [] [0, 1, 2, 3, 4, 5, 6] [0, 1, 2, 3, 4, 5, 6] rfl (by decide) rfl (by decide) (by decide) rfl (by decide) rfl hl.1 rfl (Nat.le_of_ble_eq_true rfl) dX11_of_17 ⟨Nat.zero_le _, Nat.zero_le _⟩ (fun H locs hP hD hS => ?_)
    refine lv_goto (tgt := 24) hx hb dX11_of_20 (by decide) ?_
    have he := Option.some.inj hf
    rw [hQ]
    exact W.iret (v := r5) hx hb hr (fun t ht hW => by rw [← he]; exact ⟨⟨r5, (), rfl, rfl, by rw [ht]; exact hP, hD⟩, hS.F ht⟩) hS.2.2 dX11_of_24
def fX11_shared (N : Nat) (v0_cut_runs : Int32) (g0_cut_lengths : Nat → Int32) (g0_cut_heads : Nat → Int64) (v0_index_turns_size : Int32) (g0_index_turns_rows : Nat → Int64) (p1 : Int32) : Option (Int32) :=
  Option.bind (fX11_sharedWords N v0_cut_runs g0_cut_lengths g0_cut_heads v0_index_turns_size g0_index_turns_rows) fun r1 =>
  Option.bind (fX0_numberOf N r1 p1) fun r2 =>
  some (r2)
set_option maxHeartbeats 4000000 in
set_option maxRecDepth 100000 in
theorem mX11_shared (l : Launch) (D : zG) (a0 : Nat) (a0_now : Nat) (a0_images : Nat) (a0_merges : Nat) (a0_cut : Nat) (a0_index : Nat) (a0_otherIndex : Nat) (a0_readWords : Nat) (a0_triedPattern : Nat) (a0_alike : Nat) (a0_cut_signs : Nat) (a0_cut_starts : Nat) (a0_cut_lengths : Nat) (a0_cut_piecesOfRuns : Nat) (a0_cut_heads : Nat) (a0_index_turns : Nat) (a0_index_turns_rows : Nat) (sz : Nat)  (v0_cut_size : Int32) (v0_cut_runs : Int32) (v0_cut_pieces : Int32) (v0_cut_inRun : Int32) (g0_cut_lengths : Nat → Int32) (g0_cut_heads : Nat → Int64) (v0_index_turns_size : Int32) (g0_index_turns_rows : Nat → Int64) (p1 : Int32) (N : Nat) (res : Int32) (hf : fX11_shared N v0_cut_runs g0_cut_lengths g0_cut_heads v0_index_turns_size g0_index_turns_rows p1 = some res) : Met l yX11_shared wsX11_shared ({ frames := 6, cells := 0, slots := 0, locals := 141 } : Room) (va_Pc [.ref a0, .int p1] (zW D sz [(a0, .inr (8, [.ref a0_now, .ref a0_images, .ref a0_merges, .ref a0_cut, .ref a0_index, .ref a0_otherIndex, .ref a0_readWords, .ref a0_triedPattern, .ref a0_alike])), (a0_cut, .inr (0, [.ref a0_cut_signs, .ref a0_cut_starts, .ref a0_cut_lengths, .ref a0_cut_piecesOfRuns, .ref a0_cut_heads, .int v0_cut_size, .int v0_cut_runs, .int v0_cut_pieces, .int v0_cut_inRun])), (a0_cut_lengths, .inl (D.2 1, 13, .inl g0_cut_lengths)), (a0_cut_heads, .inl (D.2 2, 13, .inr (.inl g0_cut_heads))), (a0_index, .inr (2, [.ref a0_index_turns])), (a0_index_turns, .inr (5, [.ref a0_index_turns_rows, .int v0_index_turns_size])), (a0_index_turns_rows, .inl (D.2 2, 320, .inr (.inl g0_index_turns_rows)))])) (va_Qi (fun r (_ : Unit) => r = res) (fun _ => zB D (va_A [(a0, .inr (8, [.ref a0_now, .ref a0_images, .ref a0_merges, .ref a0_cut, .ref a0_index, .ref a0_otherIndex, .ref a0_readWords, .ref a0_triedPattern, .ref a0_alike])), (a0_cut, .inr (0, [.ref a0_cut_signs, .ref a0_cut_starts, .ref a0_cut_lengths, .ref a0_cut_piecesOfRuns, .ref a0_cut_heads, .int v0_cut_size, .int v0_cut_runs, .int v0_cut_pieces, .int v0_cut_inRun])), (a0_cut_lengths, .inl (D.2 1, 13, .inl g0_cut_lengths)), (a0_cut_heads, .inl (D.2 2, 13, .inr (.inl g0_cut_heads))), (a0_index, .inr (2, [.ref a0_index_turns])), (a0_index_turns, .inr (5, [.ref a0_index_turns_rows, .int v0_index_turns_size])), (a0_index_turns_rows, .inl (D.2 2, 320, .inr (.inl g0_index_turns_rows)))] sz) [(a0, .inr (8, [.ref a0_now, .ref a0_images, .ref a0_merges, .ref a0_cut, .ref a0_index, .ref a0_otherIndex, .ref a0_readWords, .ref a0_triedPattern, .ref a0_alike])), (a0_cut, .inr (0, [.ref a0_cut_signs, .ref a0_cut_starts, .ref a0_cut_lengths, .ref a0_cut_piecesOfRuns, .ref a0_cut_heads, .int v0_cut_size, .int v0_cut_runs, .int v0_cut_pieces, .int v0_cut_inRun])), (a0_cut_lengths, .inl (D.2 1, 13, .inl g0_cut_lengths)), (a0_cut_heads, .inl (D.2 2, 13, .inr (.inl g0_cut_heads))), (a0_index, .inr (2, [.ref a0_index_turns])), (a0_index_turns, .inr (5, [.ref a0_index_turns_rows, .int v0_index_turns_size])), (a0_index_turns_rows, .inl (D.2 2, 320, .inr (.inl g0_index_turns_rows)))]) (va_A [(a0, .inr (8, [.ref a0_now, .ref a0_images, .ref a0_merges, .ref a0_cut, .ref a0_index, .ref a0_otherIndex, .ref a0_readWords, .ref a0_triedPattern, .ref a0_alike])), (a0_cut, .inr (0, [.ref a0_cut_signs, .ref a0_cut_starts, .ref a0_cut_lengths, .ref a0_cut_piecesOfRuns, .ref a0_cut_heads, .int v0_cut_size, .int v0_cut_runs, .int v0_cut_pieces, .int v0_cut_inRun])), (a0_cut_lengths, .inl (D.2 1, 13, .inl g0_cut_lengths)), (a0_cut_heads, .inl (D.2 2, 13, .inr (.inl g0_cut_heads))), (a0_index, .inr (2, [.ref a0_index_turns])), (a0_index_turns, .inr (5, [.ref a0_index_turns_rows, .int v0_index_turns_size])), (a0_index_turns_rows, .inl (D.2 2, 320, .inr (.inl g0_index_turns_rows)))] sz)) 0 0 (va_A [(a0, .inr (8, [.ref a0_now, .ref a0_images, .ref a0_merges, .ref a0_cut, .ref a0_index, .ref a0_otherIndex, .ref a0_readWords, .ref a0_triedPattern, .ref a0_alike])), (a0_cut, .inr (0, [.ref a0_cut_signs, .ref a0_cut_starts, .ref a0_cut_lengths, .ref a0_cut_piecesOfRuns, .ref a0_cut_heads, .int v0_cut_size, .int v0_cut_runs, .int v0_cut_pieces, .int v0_cut_inRun])), (a0_cut_lengths, .inl (D.2 1, 13, .inl g0_cut_lengths)), (a0_cut_heads, .inl (D.2 2, 13, .inr (.inl g0_cut_heads))), (a0_index, .inr (2, [.ref a0_index_turns])), (a0_index_turns, .inr (5, [.ref a0_index_turns_rows, .int v0_index_turns_size])), (a0_index_turns_rows, .inl (D.2 2, 320, .inr (.inl g0_index_turns_rows)))] sz) := by
  refine Met.ofW (cc := cX11_shared) (maxL := 2) (ret := (some .int)) (by decide) rfl ?_
  intro p e s m args below meth c s₁ B hml hv
  obtain ⟨rfl, hsz, hP, hK, hD0⟩ := hv
  have hx := B.exec
  have hb := B.bytes
  have hr := B.returns
  have hts := atoms_spec (ws := wsX11_shared) B.pre
  have hown : s.vm.findClass RX11 = some m.cls := findClass_of_methodNamed B.named
  have hlocks := B.notSynchronized
  subst hsz
  have hD := hD0.self (sz := s.heap.size)
  generalize hAe : va_A [(a0, .inr (8, [.ref a0_now, .ref a0_images, .ref a0_merges, .ref a0_cut, .ref a0_index, .ref a0_otherIndex, .ref a0_readWords, .ref a0_triedPattern, .ref a0_alike])), (a0_cut, .inr (0, [.ref a0_cut_signs, .ref a0_cut_starts, .ref a0_cut_lengths, .ref a0_cut_piecesOfRuns, .ref a0_cut_heads, .int v0_cut_size, .int v0_cut_runs, .int v0_cut_pieces, .int v0_cut_inRun])), (a0_cut_lengths, .inl (D.2 1, 13, .inl g0_cut_lengths)), (a0_cut_heads, .inl (D.2 2, 13, .inr (.inl g0_cut_heads))), (a0_index, .inr (2, [.ref a0_index_turns])), (a0_index_turns, .inr (5, [.ref a0_index_turns_rows, .int v0_index_turns_size])), (a0_index_turns_rows, .inl (D.2 2, 320, .inr (.inl g0_index_turns_rows)))] s.heap.size = A at hD ⊢
  have hA : ∀ q : Nat, s.heap.size ≤ q → A q := fun q h => by rw [← hAe]; exact Or.inr h
  have hl := lv_entry ([.ref a0, .int p1]) (n := 2) (Nat.le_of_ble_eq_true rfl)
  rw [lg_entry_eq]
  generalize (lg_sl ([.ref a0, .int p1]) ++ List.replicate (2 - (lg_sl ([.ref a0, .int p1])).length) Slot.unset).toArray = ls at hl ⊢
  have hl : lv_has ls 2 [(0, .ref a0), (1, .int p1)] := hl
  refine zStart (A := A) hP (fun Q0 H locs hQ hP hS => ?_)
  unfold fX11_shared at hf
  refine lv_aload_n hx hb dX11_shared_0 rfl (lv_at hl 0 rfl) ?_
  obtain ⟨r1, hr1, hf⟩ := bd hf
  refine zVl (As := []) (rest := []) (ci := 8) (q0 := 0) (wn := [(a0, .inr (8, [.ref a0_now, .ref a0_images, .ref a0_merges, .ref a0_cut, .ref a0_index, .ref a0_otherIndex, .ref a0_readWords, .ref a0_triedPattern, .ref a0_alike])), (a0_cut, .inr (0, [.ref a0_cut_signs, .ref a0_cut_starts, .ref a0_cut_lengths, .ref a0_cut_piecesOfRuns, .ref a0_cut_heads, .int v0_cut_size, .int v0_cut_runs, .int v0_cut_pieces, .int v0_cut_inRun])), (a0_cut_lengths, .inl (D.2 1, 13, .inl g0_cut_lengths)), (a0_cut_heads, .inl (D.2 2, 13, .inr (.inl g0_cut_heads))), (a0_index, .inr (2, [.ref a0_index_turns])), (a0_index_turns, .inr (5, [.ref a0_index_turns_rows, .int v0_index_turns_size])), (a0_index_turns_rows, .inl (D.2 2, 320, .inr (.inl g0_index_turns_rows)))]) ⟨hx, hb, hml, hown, hts⟩ (mX11_sharedWords l D a0 a0_now a0_images a0_merges a0_cut a0_index a0_otherIndex a0_readWords a0_triedPattern a0_alike a0_cut_signs a0_cut_starts a0_cut_lengths a0_cut_piecesOfRuns a0_cut_heads a0_index_turns a0_index_turns_rows H.size v0_cut_size v0_cut_runs v0_cut_pieces v0_cut_inRun g0_cut_lengths g0_cut_heads v0_index_turns_size g0_index_turns_rows N r1 hr1) (cwV 0 hts gX11_shared_X11_sharedWords rfl rfl rfl (by decide +kernel) ⟨Nat.le_of_ble_eq_true rfl, Nat.le_of_ble_eq_true rfl⟩) hK hP hD hS hA [0, 1, 2, 3, 4, 5, 6] [] [0, 1, 2, 3, 4, 5, 6] rfl (by decide) rfl (by decide) (by decide) rfl (by decide) rfl rfl rfl hl.1 rfl (Nat.le_of_ble_eq_true rfl) dX11_shared_1 ⟨Nat.zero_le _, Nat.zero_le _⟩ (fun H locs hP hD hS => ?_)
  refine lv_iload_n hx hb dX11_shared_4 rfl (lv_at hl 1 rfl) ?_
  obtain ⟨r2, hr2, hf⟩ := bd hf
  refine zSi (As := [.long r1, .int p1]) (rest := []) (wn := [(a0, .inr (8, [.ref a0_now, .ref a0_images, .ref a0_merges, .ref a0_cut, .ref a0_index, .ref a0_otherIndex, .ref a0_readWords, .ref a0_triedPattern, .ref a0_alike])), (a0_cut, .inr (0, [.ref a0_cut_signs, .ref a0_cut_starts, .ref a0_cut_lengths, .ref a0_cut_piecesOfRuns, .ref a0_cut_heads, .int v0_cut_size, .int v0_cut_runs, .int v0_cut_pieces, .int v0_cut_inRun])), (a0_cut_lengths, .inl (D.2 1, 13, .inl g0_cut_lengths)), (a0_cut_heads, .inl (D.2 2, 13, .inr (.inl g0_cut_heads))), (a0_index, .inr (2, [.ref a0_index_turns])), (a0_index_turns, .inr (5, [.ref a0_index_turns_rows, .int v0_index_turns_size])), (a0_index_turns_rows, .inl (D.2 2, 320, .inr (.inl g0_index_turns_rows)))]) ⟨hx, hb, hml, hown, hts⟩ (mX0_numberOf l D H.size r1 p1 N r2 hr2) (va_cwS 2 hts gX11_shared_X0_numberOf rfl rfl rfl (by decide +kernel) ⟨Nat.le_of_ble_eq_true rfl, Nat.le_of_ble_eq_true rfl⟩) hK hP hD hS hA [] [0, 1, 2, 3, 4, 5, 6] [0, 1, 2, 3, 4, 5, 6] rfl (by decide) rfl (by decide) (by decide) rfl (by decide) rfl hl.1 rfl (Nat.le_of_ble_eq_true rfl) dX11_shared_5 ⟨Nat.zero_le _, Nat.zero_le _⟩ (fun H locs hP hD hS => ?_)
  have he := Option.some.inj hf
  rw [hQ]
  exact W.iret (v := r2) hx hb hr (fun t ht hW => by rw [← he]; exact ⟨⟨r2, (), rfl, rfl, by rw [ht]; exact hP, hD⟩, hS.F ht⟩) hS.2.2 dX11_shared_8
def fX11_alone_40 (N : Nat) (v0_now_dictionary_size : Int32) (g0_now_dictionary_rows : Nat → Int64) (v0_index_turns_size : Int32) (g0_index_turns_rows : Nat → Int64) (p1 : Int32) (p2 : Int32) : Nat → Int64 → Int32 → Option (Int32)
  | 0, _, _ => none
  | K + 1, x3, x5 =>
    if (8 : Int32) < x5 then
      some ((-2 : Int32))
    else
      Option.bind (fX3_firstAlone N v0_index_turns_size g0_index_turns_rows x3 x5) fun r8 =>
      if r8 = (-1 : Int32) then
        (fX11_alone_40 N v0_now_dictionary_size g0_now_dictionary_rows v0_index_turns_size g0_index_turns_rows p1 p2 K) x3 (x5 + (1 : Int32))
      else
        if p2 = (0 : Int32) then
          some (x5)
        else
          if p2 = (1 : Int32) then
            some (r8)
          else
            Option.bind (fX3_placeOf N v0_index_turns_size g0_index_turns_rows x3 r8) fun r12 =>
            some (r12)
def fX11_alone (N : Nat) (v0_now_dictionary_size : Int32) (g0_now_dictionary_rows : Nat → Int64) (v0_index_turns_size : Int32) (g0_index_turns_rows : Nat → Int64) (p1 : Int32) (p2 : Int32) : Option (Int32) :=
  Option.bind (fX7_hasNumber v0_now_dictionary_size p1) fun r1 =>
  if r1 = (0 : Int32) then
    some ((-1 : Int32))
  else
    if p2 < (0 : Int32) then
      some ((-1 : Int32))
    else
      if p2 ≤ (2 : Int32) then
        Option.bind (fX7_at 40 v0_now_dictionary_size g0_now_dictionary_rows p1) fun r6 =>
        fX11_alone_40 N v0_now_dictionary_size g0_now_dictionary_rows v0_index_turns_size g0_index_turns_rows p1 p2 N r6 (1 : Int32)
      else
        some ((-1 : Int32))
set_option maxHeartbeats 4000000 in
set_option maxRecDepth 100000 in
theorem mX11_alone (l : Launch) (D : zG) (a0 : Nat) (a0_now : Nat) (a0_images : Nat) (a0_merges : Nat) (a0_cut : Nat) (a0_index : Nat) (a0_otherIndex : Nat) (a0_readWords : Nat) (a0_triedPattern : Nat) (a0_alike : Nat) (a0_now_tape : Nat) (a0_now_dictionary : Nat) (a0_now_coming : Nat) (a0_now_pattern : Nat) (a0_now_fault : Nat) (a0_now_dictionary_rows : Nat) (a0_index_turns : Nat) (a0_index_turns_rows : Nat) (sz : Nat)  (v0_now_edits : Int32) (v0_now_dictionary_size : Int32) (g0_now_dictionary_rows : Nat → Int64) (v0_index_turns_size : Int32) (g0_index_turns_rows : Nat → Int64) (p1 : Int32) (p2 : Int32) (N : Nat) (res : Int32) (hf : fX11_alone N v0_now_dictionary_size g0_now_dictionary_rows v0_index_turns_size g0_index_turns_rows p1 p2 = some res) : Met l yX11_alone wsX11_alone ({ frames := 5, cells := 0, slots := 0, locals := 124 } : Room) (va_Pc [.ref a0, .int p1, .int p2] (zW D sz [(a0, .inr (8, [.ref a0_now, .ref a0_images, .ref a0_merges, .ref a0_cut, .ref a0_index, .ref a0_otherIndex, .ref a0_readWords, .ref a0_triedPattern, .ref a0_alike])), (a0_now, .inr (6, [.ref a0_now_tape, .ref a0_now_dictionary, .ref a0_now_coming, .ref a0_now_pattern, .ref a0_now_fault, .int v0_now_edits])), (a0_now_dictionary, .inr (5, [.ref a0_now_dictionary_rows, .int v0_now_dictionary_size])), (a0_now_dictionary_rows, .inl (D.2 2, 40, .inr (.inl g0_now_dictionary_rows))), (a0_index, .inr (2, [.ref a0_index_turns])), (a0_index_turns, .inr (5, [.ref a0_index_turns_rows, .int v0_index_turns_size])), (a0_index_turns_rows, .inl (D.2 2, 320, .inr (.inl g0_index_turns_rows)))])) (va_Qi (fun r (_ : Unit) => r = res) (fun _ => zB D (va_A [(a0, .inr (8, [.ref a0_now, .ref a0_images, .ref a0_merges, .ref a0_cut, .ref a0_index, .ref a0_otherIndex, .ref a0_readWords, .ref a0_triedPattern, .ref a0_alike])), (a0_now, .inr (6, [.ref a0_now_tape, .ref a0_now_dictionary, .ref a0_now_coming, .ref a0_now_pattern, .ref a0_now_fault, .int v0_now_edits])), (a0_now_dictionary, .inr (5, [.ref a0_now_dictionary_rows, .int v0_now_dictionary_size])), (a0_now_dictionary_rows, .inl (D.2 2, 40, .inr (.inl g0_now_dictionary_rows))), (a0_index, .inr (2, [.ref a0_index_turns])), (a0_index_turns, .inr (5, [.ref a0_index_turns_rows, .int v0_index_turns_size])), (a0_index_turns_rows, .inl (D.2 2, 320, .inr (.inl g0_index_turns_rows)))] sz) [(a0, .inr (8, [.ref a0_now, .ref a0_images, .ref a0_merges, .ref a0_cut, .ref a0_index, .ref a0_otherIndex, .ref a0_readWords, .ref a0_triedPattern, .ref a0_alike])), (a0_now, .inr (6, [.ref a0_now_tape, .ref a0_now_dictionary, .ref a0_now_coming, .ref a0_now_pattern, .ref a0_now_fault, .int v0_now_edits])), (a0_now_dictionary, .inr (5, [.ref a0_now_dictionary_rows, .int v0_now_dictionary_size])), (a0_now_dictionary_rows, .inl (D.2 2, 40, .inr (.inl g0_now_dictionary_rows))), (a0_index, .inr (2, [.ref a0_index_turns])), (a0_index_turns, .inr (5, [.ref a0_index_turns_rows, .int v0_index_turns_size])), (a0_index_turns_rows, .inl (D.2 2, 320, .inr (.inl g0_index_turns_rows)))]) (va_A [(a0, .inr (8, [.ref a0_now, .ref a0_images, .ref a0_merges, .ref a0_cut, .ref a0_index, .ref a0_otherIndex, .ref a0_readWords, .ref a0_triedPattern, .ref a0_alike])), (a0_now, .inr (6, [.ref a0_now_tape, .ref a0_now_dictionary, .ref a0_now_coming, .ref a0_now_pattern, .ref a0_now_fault, .int v0_now_edits])), (a0_now_dictionary, .inr (5, [.ref a0_now_dictionary_rows, .int v0_now_dictionary_size])), (a0_now_dictionary_rows, .inl (D.2 2, 40, .inr (.inl g0_now_dictionary_rows))), (a0_index, .inr (2, [.ref a0_index_turns])), (a0_index_turns, .inr (5, [.ref a0_index_turns_rows, .int v0_index_turns_size])), (a0_index_turns_rows, .inl (D.2 2, 320, .inr (.inl g0_index_turns_rows)))] sz)) 0 0 (va_A [(a0, .inr (8, [.ref a0_now, .ref a0_images, .ref a0_merges, .ref a0_cut, .ref a0_index, .ref a0_otherIndex, .ref a0_readWords, .ref a0_triedPattern, .ref a0_alike])), (a0_now, .inr (6, [.ref a0_now_tape, .ref a0_now_dictionary, .ref a0_now_coming, .ref a0_now_pattern, .ref a0_now_fault, .int v0_now_edits])), (a0_now_dictionary, .inr (5, [.ref a0_now_dictionary_rows, .int v0_now_dictionary_size])), (a0_now_dictionary_rows, .inl (D.2 2, 40, .inr (.inl g0_now_dictionary_rows))), (a0_index, .inr (2, [.ref a0_index_turns])), (a0_index_turns, .inr (5, [.ref a0_index_turns_rows, .int v0_index_turns_size])), (a0_index_turns_rows, .inl (D.2 2, 320, .inr (.inl g0_index_turns_rows)))] sz) := by
  refine Met.ofW (cc := cX11_alone) (maxL := 7) (ret := (some .int)) (by decide) rfl ?_
  intro p e s m args below meth c s₁ B hml hv
  obtain ⟨rfl, hsz, hP, hK, hD0⟩ := hv
  have hx := B.exec
  have hb := B.bytes
  have hr := B.returns
  have hts := atoms_spec (ws := wsX11_alone) B.pre
  have hown : s.vm.findClass RX11 = some m.cls := findClass_of_methodNamed B.named
  have hlocks := B.notSynchronized
  subst hsz
  have hD := hD0.self (sz := s.heap.size)
  generalize hAe : va_A [(a0, .inr (8, [.ref a0_now, .ref a0_images, .ref a0_merges, .ref a0_cut, .ref a0_index, .ref a0_otherIndex, .ref a0_readWords, .ref a0_triedPattern, .ref a0_alike])), (a0_now, .inr (6, [.ref a0_now_tape, .ref a0_now_dictionary, .ref a0_now_coming, .ref a0_now_pattern, .ref a0_now_fault, .int v0_now_edits])), (a0_now_dictionary, .inr (5, [.ref a0_now_dictionary_rows, .int v0_now_dictionary_size])), (a0_now_dictionary_rows, .inl (D.2 2, 40, .inr (.inl g0_now_dictionary_rows))), (a0_index, .inr (2, [.ref a0_index_turns])), (a0_index_turns, .inr (5, [.ref a0_index_turns_rows, .int v0_index_turns_size])), (a0_index_turns_rows, .inl (D.2 2, 320, .inr (.inl g0_index_turns_rows)))] s.heap.size = A at hD ⊢
  have hA : ∀ q : Nat, s.heap.size ≤ q → A q := fun q h => by rw [← hAe]; exact Or.inr h
  have l12 := zat hts 1 (w := .fieldLink RX11 12 "TurnedWords" "now" "LTurnedWords$State;") rfl
  have l112 := zat hts 2 (w := .fieldLink RX11 112 "TurnedWords$State" "dictionary" "LTurnedWords$Rising;") rfl
  have l45 := zat hts 3 (w := .fieldLink RX11 45 "TurnedWords" "index" "LTurnedWords$Index;") rfl
  have hwX11 : ∀ w ∈ u_ws RX11 TX11 9, w ∈ wsX11_alone := fun w h => List.mem_cons_of_mem _ (List.mem_append_left _ (List.mem_append_left _ (List.mem_append_left _ (List.mem_append_right _ h))))
  have hwX9 : ∀ w ∈ u_ws RX9 TX9 6, w ∈ wsX11_alone := fun w h => List.mem_cons_of_mem _ (List.mem_append_left _ (List.mem_append_left _ (List.mem_append_right _ h)))
  have hl := lv_entry ([.ref a0, .int p1, .int p2]) (n := 7) (Nat.le_of_ble_eq_true rfl)
  rw [lg_entry_eq]
  generalize (lg_sl ([.ref a0, .int p1, .int p2]) ++ List.replicate (7 - (lg_sl ([.ref a0, .int p1, .int p2])).length) Slot.unset).toArray = ls at hl ⊢
  have hl : lv_has ls 7 [(0, .ref a0), (1, .int p1), (2, .int p2)] := hl
  refine zStart (A := A) hP (fun Q0 H locs hQ hP hS => ?_)
  have k40 : ∀ K : Nat, ∀ (x3 : Int64) (x5 : Int32) (H : Heap) (locs : List Loc) (ls : Array Slot), fX11_alone_40 N v0_now_dictionary_size g0_now_dictionary_rows v0_index_turns_size g0_index_turns_rows p1 p2 K x3 x5 = some res → va_P D.1 vwCl [(a0, .inr (8, [.ref a0_now, .ref a0_images, .ref a0_merges, .ref a0_cut, .ref a0_index, .ref a0_otherIndex, .ref a0_readWords, .ref a0_triedPattern, .ref a0_alike])), (a0_now, .inr (6, [.ref a0_now_tape, .ref a0_now_dictionary, .ref a0_now_coming, .ref a0_now_pattern, .ref a0_now_fault, .int v0_now_edits])), (a0_now_dictionary, .inr (5, [.ref a0_now_dictionary_rows, .int v0_now_dictionary_size])), (a0_now_dictionary_rows, .inl (D.2 2, 40, .inr (.inl g0_now_dictionary_rows))), (a0_index, .inr (2, [.ref a0_index_turns])), (a0_index_turns, .inr (5, [.ref a0_index_turns_rows, .int v0_index_turns_size])), (a0_index_turns_rows, .inl (D.2 2, 320, .inr (.inl g0_index_turns_rows)))] H → va_D A [(a0, .inr (8, [.ref a0_now, .ref a0_images, .ref a0_merges, .ref a0_cut, .ref a0_index, .ref a0_otherIndex, .ref a0_readWords, .ref a0_triedPattern, .ref a0_alike])), (a0_now, .inr (6, [.ref a0_now_tape, .ref a0_now_dictionary, .ref a0_now_coming, .ref a0_now_pattern, .ref a0_now_fault, .int v0_now_edits])), (a0_now_dictionary, .inr (5, [.ref a0_now_dictionary_rows, .int v0_now_dictionary_size])), (a0_now_dictionary_rows, .inl (D.2 2, 40, .inr (.inl g0_now_dictionary_rows))), (a0_index, .inr (2, [.ref a0_index_turns])), (a0_index_turns, .inr (5, [.ref a0_index_turns_rows, .int v0_index_turns_size])), (a0_index_turns_rows, .inl (D.2 2, 320, .inr (.inl g0_index_turns_rows)))] → va_S A s.heap H locs → lv_has ls 7 [(0, .ref a0), (2, .int p2), (3, .long x3), (5, .int x5)] → W p l e (headSpec wsX11_alone ({ frames := 5, cells := 0, slots := 0, locals := 124 } : Room)).room s m ([.ref a0, .int p1, .int p2] : List Value).toArray below meth c H locs 0 0 Q0 (F0 m 40 ls []) := by
    intro K
    induction K with
    | zero =>
      intro x3 x5 H locs ls hf
      rw [fX11_alone_40] at hf
      cases hf
    | succ K ih =>
      intro x3 x5 H locs ls hf hP hD hS hl
      rw [fX11_alone_40] at hf
      refine lv_iload hx hb dX11_alone_40 (lv_at hl 3 rfl) ?_
      refine lv_bipush (v := 8) hx hb dX11_alone_42 (by decide) ?_
      refine lv_icmp_gt (tgt := 101) hx hb dX11_alone_44 (by decide) (fun c_7 => ?_) (fun c_7 => ?_)
      · replace hf := ip c_7 hf
        refine lv_bipush (v := -2) hx hb dX11_alone_101 (by decide) ?_
        have he := Option.some.inj hf
        rw [hQ]
        exact W.iret (v := (-2 : Int32)) hx hb hr (fun t ht hW => by rw [← he]; exact ⟨⟨(-2 : Int32), (), rfl, rfl, by rw [ht]; exact hP, hD⟩, hS.F ht⟩) hS.2.2 dX11_alone_103
      · replace hf := im c_7 hf
        refine lv_aload_n hx hb dX11_alone_47 rfl (lv_at hl 0 rfl) ?_
        refine va_get (D := D.1) (ci := 8) (v := .ref a0_index) (C := RX11) (T := TX11) (N := 9) hx hb hts hwX11 hown hK.1 hP 0 rfl rfl 4 (by decide) l45 (fun _ h9 => h9) rfl dX11_alone_48 ?_
        refine lv_lload_n hx hb dX11_alone_51 rfl (lv_at hl 2 rfl) ?_
        refine lv_iload hx hb dX11_alone_52 (lv_at hl 3 rfl) ?_
        obtain ⟨r8, hr8, hf⟩ := bd hf
        refine zVi (As := [.long x3, .int x5]) (rest := []) (ci := 2) (q0 := 0) (wn := [(a0, .inr (8, [.ref a0_now, .ref a0_images, .ref a0_merges, .ref a0_cut, .ref a0_index, .ref a0_otherIndex, .ref a0_readWords, .ref a0_triedPattern, .ref a0_alike])), (a0_now, .inr (6, [.ref a0_now_tape, .ref a0_now_dictionary, .ref a0_now_coming, .ref a0_now_pattern, .ref a0_now_fault, .int v0_now_edits])), (a0_now_dictionary, .inr (5, [.ref a0_now_dictionary_rows, .int v0_now_dictionary_size])), (a0_now_dictionary_rows, .inl (D.2 2, 40, .inr (.inl g0_now_dictionary_rows))), (a0_index, .inr (2, [.ref a0_index_turns])), (a0_index_turns, .inr (5, [.ref a0_index_turns_rows, .int v0_index_turns_size])), (a0_index_turns_rows, .inl (D.2 2, 320, .inr (.inl g0_index_turns_rows)))]) ⟨hx, hb, hml, hown, hts⟩ (mX3_firstAlone l D a0_index a0_index_turns a0_index_turns_rows H.size v0_index_turns_size g0_index_turns_rows x3 x5 N r8 hr8) (cwV 2 hts gX11_alone_X3_firstAlone rfl rfl rfl (by decide +kernel) ⟨Nat.le_of_ble_eq_true rfl, Nat.le_of_ble_eq_true rfl⟩) hK hP hD hS hA [4, 5, 6] [0, 1, 2, 3] [0, 1, 2, 3, 4, 5, 6] rfl (by decide) rfl (by decide) (by decide) rfl (by decide) rfl rfl rfl hl.1 rfl (Nat.le_of_ble_eq_true rfl) dX11_alone_54 ⟨Nat.zero_le _, Nat.zero_le _⟩ (fun H locs hP hD hS => ?_)
        refine lv_istore (lv' := [(6, .int r8), (0, .ref a0), (2, .int p2), (3, .long x3), (5, .int x5)]) hx hb dX11_alone_57 hl (by decide) rfl (fun ls hl => ?_)
        refine lv_iload hx hb dX11_alone_59 (lv_at hl 0 rfl) ?_
        refine lv_iconst (v := -1) hx hb dX11_alone_61 (by decide) ?_
        refine lv_icmp_eq (tgt := 95) hx hb dX11_alone_62 (by decide) (fun c_9 => ?_) (fun c_9 => ?_)
        · replace hf := ip c_9 hf
          refine lv_iinc (v := (x5 + (1 : Int32))) (lv' := [(5, .int (x5 + (1 : Int32))), (6, .int r8), (0, .ref a0), (2, .int p2), (3, .long x3)]) hx hb dX11_alone_95 hl (k := 4) rfl rfl (by decide) rfl (fun ls hl => ?_)
          refine lv_goto (tgt := 40) hx hb dX11_alone_98 (by decide) ?_
          exact ih x3 (x5 + (1 : Int32)) H locs ls hf hP hD hS (lv_sub hl [2, 3, 4, 0] rfl)
        · replace hf := im c_9 hf
          refine lv_iload_n hx hb dX11_alone_65 rfl (lv_at hl 2 rfl) ?_
          refine lv_if_ne (tgt := 74) hx hb dX11_alone_66 (by decide) (fun c_10 => ?_) (fun c_10 => ?_)
          · replace hf := im c_10 hf
            refine lv_iload_n hx hb dX11_alone_74 rfl (lv_at hl 2 rfl) ?_
            refine lv_iconst (v := 1) hx hb dX11_alone_75 (by decide) ?_
            refine lv_icmp_ne (tgt := 84) hx hb dX11_alone_76 (by decide) (fun c_11 => ?_) (fun c_11 => ?_)
            · replace hf := im c_11 hf
              refine lv_aload_n hx hb dX11_alone_84 rfl (lv_at hl 1 rfl) ?_
              refine va_get (D := D.1) (ci := 8) (v := .ref a0_index) (C := RX11) (T := TX11) (N := 9) hx hb hts hwX11 hown hK.1 hP 0 rfl rfl 4 (by decide) l45 (fun _ h9 => h9) rfl dX11_alone_85 ?_
              refine lv_lload_n hx hb dX11_alone_88 rfl (lv_at hl 3 rfl) ?_
              refine lv_iload hx hb dX11_alone_89 (lv_at hl 0 rfl) ?_
              obtain ⟨r12, hr12, hf⟩ := bd hf
              refine zVi (As := [.long x3, .int r8]) (rest := []) (ci := 2) (q0 := 0) (wn := [(a0, .inr (8, [.ref a0_now, .ref a0_images, .ref a0_merges, .ref a0_cut, .ref a0_index, .ref a0_otherIndex, .ref a0_readWords, .ref a0_triedPattern, .ref a0_alike])), (a0_now, .inr (6, [.ref a0_now_tape, .ref a0_now_dictionary, .ref a0_now_coming, .ref a0_now_pattern, .ref a0_now_fault, .int v0_now_edits])), (a0_now_dictionary, .inr (5, [.ref a0_now_dictionary_rows, .int v0_now_dictionary_size])), (a0_now_dictionary_rows, .inl (D.2 2, 40, .inr (.inl g0_now_dictionary_rows))), (a0_index, .inr (2, [.ref a0_index_turns])), (a0_index_turns, .inr (5, [.ref a0_index_turns_rows, .int v0_index_turns_size])), (a0_index_turns_rows, .inl (D.2 2, 320, .inr (.inl g0_index_turns_rows)))]) ⟨hx, hb, hml, hown, hts⟩ (mX3_placeOf l D a0_index a0_index_turns a0_index_turns_rows H.size v0_index_turns_size g0_index_turns_rows x3 r8 N r12 hr12) (cwV 2 hts gX11_alone_X3_placeOf rfl rfl rfl (by decide +kernel) ⟨Nat.le_of_ble_eq_true rfl, Nat.le_of_ble_eq_true rfl⟩) hK hP hD hS hA [4, 5, 6] [0, 1, 2, 3] [0, 1, 2, 3, 4, 5, 6] rfl (by decide) rfl (by decide) (by decide) rfl (by decide) rfl rfl rfl hl.1 rfl (Nat.le_of_ble_eq_true rfl) dX11_alone_91 ⟨Nat.zero_le _, Nat.zero_le _⟩ (fun H locs hP hD hS => ?_)
              have he := Option.some.inj hf
              rw [hQ]
              exact W.iret (v := r12) hx hb hr (fun t ht hW => by rw [← he]; exact ⟨⟨r12, (), rfl, rfl, by rw [ht]; exact hP, hD⟩, hS.F ht⟩) hS.2.2 dX11_alone_94
            · replace hf := ip c_11 hf
              refine lv_iload hx hb dX11_alone_79 (lv_at hl 0 rfl) ?_
              refine lv_goto (tgt := 94) hx hb dX11_alone_81 (by decide) ?_
              have he := Option.some.inj hf
              rw [hQ]
              exact W.iret (v := r8) hx hb hr (fun t ht hW => by rw [← he]; exact ⟨⟨r8, (), rfl, rfl, by rw [ht]; exact hP, hD⟩, hS.F ht⟩) hS.2.2 dX11_alone_94
          · replace hf := ip c_10 hf
            refine lv_iload hx hb dX11_alone_69 (lv_at hl 4 rfl) ?_
            refine lv_goto (tgt := 94) hx hb dX11_alone_71 (by decide) ?_
            have he := Option.some.inj hf
            rw [hQ]
            exact W.iret (v := x5) hx hb hr (fun t ht hW => by rw [← he]; exact ⟨⟨x5, (), rfl, rfl, by rw [ht]; exact hP, hD⟩, hS.F ht⟩) hS.2.2 dX11_alone_94
  unfold fX11_alone at hf
  refine lv_aload_n hx hb dX11_alone_0 rfl (lv_at hl 0 rfl) ?_
  refine va_get (D := D.1) (ci := 8) (v := .ref a0_now) (C := RX11) (T := TX11) (N := 9) hx hb hts hwX11 hown hK.1 hP 0 rfl rfl 0 (by decide) l12 (fun _ h9 => h9) rfl dX11_alone_1 ?_
  refine va_get (D := D.1) (ci := 6) (v := .ref a0_now_dictionary) (C := RX9) (T := TX9) (N := 6) hx hb hts hwX9 hown hK.1 hP 1 rfl rfl 1 (by decide) l112 (fun _ h9 => h9) rfl dX11_alone_4 ?_
  refine lv_iload_n hx hb dX11_alone_7 rfl (lv_at hl 1 rfl) ?_
  obtain ⟨r1, hr1, hf⟩ := bd hf
  refine zVz (As := [.int p1]) (rest := []) (ci := 5) (q0 := 0) (wn := [(a0, .inr (8, [.ref a0_now, .ref a0_images, .ref a0_merges, .ref a0_cut, .ref a0_index, .ref a0_otherIndex, .ref a0_readWords, .ref a0_triedPattern, .ref a0_alike])), (a0_now, .inr (6, [.ref a0_now_tape, .ref a0_now_dictionary, .ref a0_now_coming, .ref a0_now_pattern, .ref a0_now_fault, .int v0_now_edits])), (a0_now_dictionary, .inr (5, [.ref a0_now_dictionary_rows, .int v0_now_dictionary_size])), (a0_now_dictionary_rows, .inl (D.2 2, 40, .inr (.inl g0_now_dictionary_rows))), (a0_index, .inr (2, [.ref a0_index_turns])), (a0_index_turns, .inr (5, [.ref a0_index_turns_rows, .int v0_index_turns_size])), (a0_index_turns_rows, .inl (D.2 2, 320, .inr (.inl g0_index_turns_rows)))]) ⟨hx, hb, hml, hown, hts⟩ (mX7_hasNumber l D a0_now_dictionary a0_now_dictionary_rows H.size v0_now_dictionary_size p1 r1 hr1) (cwV 1 hts gX11_alone_X7_hasNumber rfl rfl rfl (by decide +kernel) ⟨Nat.le_of_ble_eq_true rfl, Nat.le_of_ble_eq_true rfl⟩) hK hP hD hS hA [2] [0, 1, 3, 4, 5, 6] [0, 1, 6, 2, 3, 4, 5] rfl (by decide) rfl (by decide) (by decide) rfl (by decide) rfl rfl rfl hl.1 rfl (Nat.le_of_ble_eq_true rfl) dX11_alone_8 ⟨Nat.zero_le _, Nat.zero_le _⟩ (fun H locs hb_2 hP hD hS => ?_)
  refine lv_if_eq (tgt := 23) hx hb dX11_alone_11 (by decide) (fun c_3 => ?_) (fun c_3 => ?_)
  · replace hf := ip c_3 hf
    refine lv_iconst (v := -1) hx hb dX11_alone_23 (by decide) ?_
    have he := Option.some.inj hf
    rw [hQ]
    exact W.iret (v := (-1 : Int32)) hx hb hr (fun t ht hW => by rw [← he]; exact ⟨⟨(-1 : Int32), (), rfl, rfl, by rw [ht]; exact hP, hD⟩, hS.F ht⟩) hS.2.2 dX11_alone_24
  · replace hf := im c_3 hf
    refine lv_iload_n hx hb dX11_alone_14 rfl (lv_at hl 2 rfl) ?_
    refine lv_if_lt (tgt := 23) hx hb dX11_alone_15 (by decide) (fun c_4 => ?_) (fun c_4 => ?_)
    · replace hf := ip c_4 hf
      refine lv_iconst (v := -1) hx hb dX11_alone_23 (by decide) ?_
      have he := Option.some.inj hf
      rw [hQ]
      exact W.iret (v := (-1 : Int32)) hx hb hr (fun t ht hW => by rw [← he]; exact ⟨⟨(-1 : Int32), (), rfl, rfl, by rw [ht]; exact hP, hD⟩, hS.F ht⟩) hS.2.2 dX11_alone_24
    · replace hf := im c_4 hf
      refine lv_iload_n hx hb dX11_alone_18 rfl (lv_at hl 2 rfl) ?_
      refine lv_iconst (v := 2) hx hb dX11_alone_19 (by decide) ?_
      refine lv_icmp_le (tgt := 25) hx hb dX11_alone_20 (by decide) (fun c_5 => ?_) (fun c_5 => ?_)
      · replace hf := ip c_5 hf
        refine lv_aload_n hx hb dX11_alone_25 rfl (lv_at hl 0 rfl) ?_
        refine va_get (D := D.1) (ci := 8) (v := .ref a0_now) (C := RX11) (T := TX11) (N := 9) hx hb hts hwX11 hown hK.1 hP 0 rfl rfl 0 (by decide) l12 (fun _ h9 => h9) rfl dX11_alone_26 ?_
        refine va_get (D := D.1) (ci := 6) (v := .ref a0_now_dictionary) (C := RX9) (T := TX9) (N := 6) hx hb hts hwX9 hown hK.1 hP 1 rfl rfl 1 (by decide) l112 (fun _ h9 => h9) rfl dX11_alone_29 ?_
        refine lv_iload_n hx hb dX11_alone_32 rfl (lv_at hl 1 rfl) ?_
        obtain ⟨r6, hr6, hf⟩ := bd hf
        refine zVl (As := [.int p1]) (rest := []) (ci := 5) (q0 := 0) (wn := [(a0, .inr (8, [.ref a0_now, .ref a0_images, .ref a0_merges, .ref a0_cut, .ref a0_index, .ref a0_otherIndex, .ref a0_readWords, .ref a0_triedPattern, .ref a0_alike])), (a0_now, .inr (6, [.ref a0_now_tape, .ref a0_now_dictionary, .ref a0_now_coming, .ref a0_now_pattern, .ref a0_now_fault, .int v0_now_edits])), (a0_now_dictionary, .inr (5, [.ref a0_now_dictionary_rows, .int v0_now_dictionary_size])), (a0_now_dictionary_rows, .inl (D.2 2, 40, .inr (.inl g0_now_dictionary_rows))), (a0_index, .inr (2, [.ref a0_index_turns])), (a0_index_turns, .inr (5, [.ref a0_index_turns_rows, .int v0_index_turns_size])), (a0_index_turns_rows, .inl (D.2 2, 320, .inr (.inl g0_index_turns_rows)))]) ⟨hx, hb, hml, hown, hts⟩ (mX7_at l D a0_now_dictionary a0_now_dictionary_rows H.size 40 v0_now_dictionary_size g0_now_dictionary_rows p1 r6 hr6) (cwV 1 hts gX11_alone_X7_at rfl rfl rfl (by decide +kernel) ⟨Nat.le_of_ble_eq_true rfl, Nat.le_of_ble_eq_true rfl⟩) hK hP hD hS hA [2, 3] [0, 1, 4, 5, 6] [0, 1, 5, 6, 2, 3, 4] rfl (by decide) rfl (by decide) (by decide) rfl (by decide) rfl rfl rfl hl.1 rfl (Nat.le_of_ble_eq_true rfl) dX11_alone_33 ⟨Nat.zero_le _, Nat.zero_le _⟩ (fun H locs hP hD hS => ?_)
        refine lv_lstore_n (lv' := [(3, .long r6), (0, .ref a0), (1, .int p1), (2, .int p2)]) hx hb dX11_alone_36 rfl hl (by decide) rfl (fun ls hl => ?_)
        refine lv_iconst (v := 1) hx hb dX11_alone_37 (by decide) ?_
        refine lv_istore (lv' := [(5, .int (1 : Int32)), (3, .long r6), (0, .ref a0), (1, .int p1), (2, .int p2)]) hx hb dX11_alone_38 hl (by decide) rfl (fun ls hl => ?_)
        exact k40 N r6 (1 : Int32) H locs ls hf hP hD hS (lv_sub hl [2, 4, 1, 0] rfl)
      · replace hf := im c_5 hf
        refine lv_iconst (v := -1) hx hb dX11_alone_23 (by decide) ?_
        have he := Option.some.inj hf
        rw [hQ]
        exact W.iret (v := (-1 : Int32)) hx hb hr (fun t ht hW => by rw [← he]; exact ⟨⟨(-1 : Int32), (), rfl, rfl, by rw [ht]; exact hP, hD⟩, hS.F ht⟩) hS.2.2 dX11_alone_24
def fX11_nearWords_5 (N : Nat) (v0_now_dictionary_size : Int32) (g0_now_dictionary_rows : Nat → Int64) (p1 : Int64) : Nat → Int64 → Int32 → Option (Int64)
  | 0, _, _ => none
  | K + 1, x3, x5 =>
    Option.bind (fX7_size v0_now_dictionary_size) fun r1 =>
    if r1 ≤ x5 then
      some (x3)
    else
      Option.bind (fX7_at 40 v0_now_dictionary_size g0_now_dictionary_rows x5) fun r3 =>
      Option.bind (fX8_areNear N p1 r3) fun r4 =>
      if r4 = (0 : Int32) then
        (fX11_nearWords_5 N v0_now_dictionary_size g0_now_dictionary_rows p1 K) x3 (x5 + (1 : Int32))
      else
        Option.bind (fX0_bit x5) fun r7 =>
        (fX11_nearWords_5 N v0_now_dictionary_size g0_now_dictionary_rows p1 K) (x3 ||| r7) (x5 + (1 : Int32))
def fX11_nearWords (N : Nat) (v0_now_dictionary_size : Int32) (g0_now_dictionary_rows : Nat → Int64) (p1 : Int64) : Option (Int64) :=
  fX11_nearWords_5 N v0_now_dictionary_size g0_now_dictionary_rows p1 N (0 : Int64) (0 : Int32)
set_option maxHeartbeats 4000000 in
set_option maxRecDepth 100000 in
theorem mX11_nearWords (l : Launch) (D : zG) (a0 : Nat) (a0_now : Nat) (a0_images : Nat) (a0_merges : Nat) (a0_cut : Nat) (a0_index : Nat) (a0_otherIndex : Nat) (a0_readWords : Nat) (a0_triedPattern : Nat) (a0_alike : Nat) (a0_now_tape : Nat) (a0_now_dictionary : Nat) (a0_now_coming : Nat) (a0_now_pattern : Nat) (a0_now_fault : Nat) (a0_now_dictionary_rows : Nat) (sz : Nat)  (v0_now_edits : Int32) (v0_now_dictionary_size : Int32) (g0_now_dictionary_rows : Nat → Int64) (p1 : Int64) (N : Nat) (res : Int64) (hf : fX11_nearWords N v0_now_dictionary_size g0_now_dictionary_rows p1 = some res) : Met l yX11_nearWords wsX11_nearWords ({ frames := 3, cells := 0, slots := 0, locals := 69 } : Room) (va_Pc [.ref a0, .long p1] (zW D sz [(a0, .inr (8, [.ref a0_now, .ref a0_images, .ref a0_merges, .ref a0_cut, .ref a0_index, .ref a0_otherIndex, .ref a0_readWords, .ref a0_triedPattern, .ref a0_alike])), (a0_now, .inr (6, [.ref a0_now_tape, .ref a0_now_dictionary, .ref a0_now_coming, .ref a0_now_pattern, .ref a0_now_fault, .int v0_now_edits])), (a0_now_dictionary, .inr (5, [.ref a0_now_dictionary_rows, .int v0_now_dictionary_size])), (a0_now_dictionary_rows, .inl (D.2 2, 40, .inr (.inl g0_now_dictionary_rows)))])) (va_Ql (fun r (_ : Unit) => r = res) (fun _ => zB D (va_A [(a0, .inr (8, [.ref a0_now, .ref a0_images, .ref a0_merges, .ref a0_cut, .ref a0_index, .ref a0_otherIndex, .ref a0_readWords, .ref a0_triedPattern, .ref a0_alike])), (a0_now, .inr (6, [.ref a0_now_tape, .ref a0_now_dictionary, .ref a0_now_coming, .ref a0_now_pattern, .ref a0_now_fault, .int v0_now_edits])), (a0_now_dictionary, .inr (5, [.ref a0_now_dictionary_rows, .int v0_now_dictionary_size])), (a0_now_dictionary_rows, .inl (D.2 2, 40, .inr (.inl g0_now_dictionary_rows)))] sz) [(a0, .inr (8, [.ref a0_now, .ref a0_images, .ref a0_merges, .ref a0_cut, .ref a0_index, .ref a0_otherIndex, .ref a0_readWords, .ref a0_triedPattern, .ref a0_alike])), (a0_now, .inr (6, [.ref a0_now_tape, .ref a0_now_dictionary, .ref a0_now_coming, .ref a0_now_pattern, .ref a0_now_fault, .int v0_now_edits])), (a0_now_dictionary, .inr (5, [.ref a0_now_dictionary_rows, .int v0_now_dictionary_size])), (a0_now_dictionary_rows, .inl (D.2 2, 40, .inr (.inl g0_now_dictionary_rows)))]) (va_A [(a0, .inr (8, [.ref a0_now, .ref a0_images, .ref a0_merges, .ref a0_cut, .ref a0_index, .ref a0_otherIndex, .ref a0_readWords, .ref a0_triedPattern, .ref a0_alike])), (a0_now, .inr (6, [.ref a0_now_tape, .ref a0_now_dictionary, .ref a0_now_coming, .ref a0_now_pattern, .ref a0_now_fault, .int v0_now_edits])), (a0_now_dictionary, .inr (5, [.ref a0_now_dictionary_rows, .int v0_now_dictionary_size])), (a0_now_dictionary_rows, .inl (D.2 2, 40, .inr (.inl g0_now_dictionary_rows)))] sz)) 0 0 (va_A [(a0, .inr (8, [.ref a0_now, .ref a0_images, .ref a0_merges, .ref a0_cut, .ref a0_index, .ref a0_otherIndex, .ref a0_readWords, .ref a0_triedPattern, .ref a0_alike])), (a0_now, .inr (6, [.ref a0_now_tape, .ref a0_now_dictionary, .ref a0_now_coming, .ref a0_now_pattern, .ref a0_now_fault, .int v0_now_edits])), (a0_now_dictionary, .inr (5, [.ref a0_now_dictionary_rows, .int v0_now_dictionary_size])), (a0_now_dictionary_rows, .inl (D.2 2, 40, .inr (.inl g0_now_dictionary_rows)))] sz) := by
  refine Met.ofW (cc := cX11_nearWords) (maxL := 6) (ret := (some .long)) (by decide) rfl ?_
  intro p e s m args below meth c s₁ B hml hv
  obtain ⟨rfl, hsz, hP, hK, hD0⟩ := hv
  have hx := B.exec
  have hb := B.bytes
  have hr := B.returns
  have hts := atoms_spec (ws := wsX11_nearWords) B.pre
  have hown : s.vm.findClass RX11 = some m.cls := findClass_of_methodNamed B.named
  have hlocks := B.notSynchronized
  subst hsz
  have hD := hD0.self (sz := s.heap.size)
  generalize hAe : va_A [(a0, .inr (8, [.ref a0_now, .ref a0_images, .ref a0_merges, .ref a0_cut, .ref a0_index, .ref a0_otherIndex, .ref a0_readWords, .ref a0_triedPattern, .ref a0_alike])), (a0_now, .inr (6, [.ref a0_now_tape, .ref a0_now_dictionary, .ref a0_now_coming, .ref a0_now_pattern, .ref a0_now_fault, .int v0_now_edits])), (a0_now_dictionary, .inr (5, [.ref a0_now_dictionary_rows, .int v0_now_dictionary_size])), (a0_now_dictionary_rows, .inl (D.2 2, 40, .inr (.inl g0_now_dictionary_rows)))] s.heap.size = A at hD ⊢
  have hA : ∀ q : Nat, s.heap.size ≤ q → A q := fun q h => by rw [← hAe]; exact Or.inr h
  have l12 := zat hts 1 (w := .fieldLink RX11 12 "TurnedWords" "now" "LTurnedWords$State;") rfl
  have l112 := zat hts 2 (w := .fieldLink RX11 112 "TurnedWords$State" "dictionary" "LTurnedWords$Rising;") rfl
  have hwX11 : ∀ w ∈ u_ws RX11 TX11 9, w ∈ wsX11_nearWords := fun w h => List.mem_cons_of_mem _ (List.mem_append_left _ (List.mem_append_left _ (List.mem_append_right _ h)))
  have hwX9 : ∀ w ∈ u_ws RX9 TX9 6, w ∈ wsX11_nearWords := fun w h => List.mem_cons_of_mem _ (List.mem_append_left _ (List.mem_append_right _ h))
  have hl := lv_entry ([.ref a0, .long p1]) (n := 6) (Nat.le_of_ble_eq_true rfl)
  rw [lg_entry_eq]
  generalize (lg_sl ([.ref a0, .long p1]) ++ List.replicate (6 - (lg_sl ([.ref a0, .long p1])).length) Slot.unset).toArray = ls at hl ⊢
  have hl : lv_has ls 6 [(0, .ref a0), (1, .long p1)] := hl
  refine zStart (A := A) hP (fun Q0 H locs hQ hP hS => ?_)
  have k5 : ∀ K : Nat, ∀ (x3 : Int64) (x5 : Int32) (H : Heap) (locs : List Loc) (ls : Array Slot), fX11_nearWords_5 N v0_now_dictionary_size g0_now_dictionary_rows p1 K x3 x5 = some res → va_P D.1 vwCl [(a0, .inr (8, [.ref a0_now, .ref a0_images, .ref a0_merges, .ref a0_cut, .ref a0_index, .ref a0_otherIndex, .ref a0_readWords, .ref a0_triedPattern, .ref a0_alike])), (a0_now, .inr (6, [.ref a0_now_tape, .ref a0_now_dictionary, .ref a0_now_coming, .ref a0_now_pattern, .ref a0_now_fault, .int v0_now_edits])), (a0_now_dictionary, .inr (5, [.ref a0_now_dictionary_rows, .int v0_now_dictionary_size])), (a0_now_dictionary_rows, .inl (D.2 2, 40, .inr (.inl g0_now_dictionary_rows)))] H → va_D A [(a0, .inr (8, [.ref a0_now, .ref a0_images, .ref a0_merges, .ref a0_cut, .ref a0_index, .ref a0_otherIndex, .ref a0_readWords, .ref a0_triedPattern, .ref a0_alike])), (a0_now, .inr (6, [.ref a0_now_tape, .ref a0_now_dictionary, .ref a0_now_coming, .ref a0_now_pattern, .ref a0_now_fault, .int v0_now_edits])), (a0_now_dictionary, .inr (5, [.ref a0_now_dictionary_rows, .int v0_now_dictionary_size])), (a0_now_dictionary_rows, .inl (D.2 2, 40, .inr (.inl g0_now_dictionary_rows)))] → va_S A s.heap H locs → lv_has ls 6 [(0, .ref a0), (1, .long p1), (3, .long x3), (5, .int x5)] → W p l e (headSpec wsX11_nearWords ({ frames := 3, cells := 0, slots := 0, locals := 69 } : Room)).room s m ([.ref a0, .long p1] : List Value).toArray below meth c H locs 0 0 Q0 (F0 m 5 ls []) := by
    intro K
    induction K with
    | zero =>
      intro x3 x5 H locs ls hf
      rw [fX11_nearWords_5] at hf
      cases hf
    | succ K ih =>
      intro x3 x5 H locs ls hf hP hD hS hl
      rw [fX11_nearWords_5] at hf
      refine lv_iload hx hb dX11_nearWords_5 (lv_at hl 3 rfl) ?_
      refine lv_aload_n hx hb dX11_nearWords_7 rfl (lv_at hl 0 rfl) ?_
      refine va_get (D := D.1) (ci := 8) (v := .ref a0_now) (C := RX11) (T := TX11) (N := 9) hx hb hts hwX11 hown hK.1 hP 0 rfl rfl 0 (by decide) l12 (fun _ h9 => h9) rfl dX11_nearWords_8 ?_
      refine va_get (D := D.1) (ci := 6) (v := .ref a0_now_dictionary) (C := RX9) (T := TX9) (N := 6) hx hb hts hwX9 hown hK.1 hP 1 rfl rfl 1 (by decide) l112 (fun _ h9 => h9) rfl dX11_nearWords_11 ?_
      obtain ⟨r1, hr1, hf⟩ := bd hf
      refine zVi (As := []) (rest := [.int x5]) (ci := 5) (q0 := 0) (wn := [(a0, .inr (8, [.ref a0_now, .ref a0_images, .ref a0_merges, .ref a0_cut, .ref a0_index, .ref a0_otherIndex, .ref a0_readWords, .ref a0_triedPattern, .ref a0_alike])), (a0_now, .inr (6, [.ref a0_now_tape, .ref a0_now_dictionary, .ref a0_now_coming, .ref a0_now_pattern, .ref a0_now_fault, .int v0_now_edits])), (a0_now_dictionary, .inr (5, [.ref a0_now_dictionary_rows, .int v0_now_dictionary_size])), (a0_now_dictionary_rows, .inl (D.2 2, 40, .inr (.inl g0_now_dictionary_rows)))]) ⟨hx, hb, hml, hown, hts⟩ (mX7_size l D a0_now_dictionary a0_now_dictionary_rows H.size v0_now_dictionary_size r1 hr1) (cwV 0 hts gX11_nearWords_X7_size rfl rfl rfl (by decide +kernel) ⟨Nat.le_of_ble_eq_true rfl, Nat.le_of_ble_eq_true rfl⟩) hK hP hD hS hA [2] [0, 1, 3] [0, 1, 3, 2] rfl (by decide) rfl (by decide) (by decide) rfl (by decide) rfl rfl rfl hl.1 rfl (Nat.le_of_ble_eq_true rfl) dX11_nearWords_14 ⟨Nat.zero_le _, Nat.zero_le _⟩ (fun H locs hP hD hS => ?_)
      refine lv_icmp_ge (tgt := 53) hx hb dX11_nearWords_17 (by decide) (fun c_2 => ?_) (fun c_2 => ?_)
      · replace hf := ip c_2 hf
        refine lv_lload_n hx hb dX11_nearWords_53 rfl (lv_at hl 2 rfl) ?_
        have he := Option.some.inj hf
        rw [hQ]
        exact W.lret (v := x3) hx hb hr (fun t ht hW => by rw [← he]; exact ⟨⟨x3, (), rfl, rfl, by rw [ht]; exact hP, hD⟩, hS.F ht⟩) hS.2.2 dX11_nearWords_54
      · replace hf := im c_2 hf
        refine lv_lload_n hx hb dX11_nearWords_20 rfl (lv_at hl 1 rfl) ?_
        refine lv_aload_n hx hb dX11_nearWords_21 rfl (lv_at hl 0 rfl) ?_
        refine va_get (D := D.1) (ci := 8) (v := .ref a0_now) (C := RX11) (T := TX11) (N := 9) hx hb hts hwX11 hown hK.1 hP 0 rfl rfl 0 (by decide) l12 (fun _ h9 => h9) rfl dX11_nearWords_22 ?_
        refine va_get (D := D.1) (ci := 6) (v := .ref a0_now_dictionary) (C := RX9) (T := TX9) (N := 6) hx hb hts hwX9 hown hK.1 hP 1 rfl rfl 1 (by decide) l112 (fun _ h9 => h9) rfl dX11_nearWords_25 ?_
        refine lv_iload hx hb dX11_nearWords_28 (lv_at hl 3 rfl) ?_
        obtain ⟨r3, hr3, hf⟩ := bd hf
        refine zVl (As := [.int x5]) (rest := [.long p1]) (ci := 5) (q0 := 0) (wn := [(a0, .inr (8, [.ref a0_now, .ref a0_images, .ref a0_merges, .ref a0_cut, .ref a0_index, .ref a0_otherIndex, .ref a0_readWords, .ref a0_triedPattern, .ref a0_alike])), (a0_now, .inr (6, [.ref a0_now_tape, .ref a0_now_dictionary, .ref a0_now_coming, .ref a0_now_pattern, .ref a0_now_fault, .int v0_now_edits])), (a0_now_dictionary, .inr (5, [.ref a0_now_dictionary_rows, .int v0_now_dictionary_size])), (a0_now_dictionary_rows, .inl (D.2 2, 40, .inr (.inl g0_now_dictionary_rows)))]) ⟨hx, hb, hml, hown, hts⟩ (mX7_at l D a0_now_dictionary a0_now_dictionary_rows H.size 40 v0_now_dictionary_size g0_now_dictionary_rows x5 r3 hr3) (cwV 1 hts gX11_nearWords_X7_at rfl rfl rfl (by decide +kernel) ⟨Nat.le_of_ble_eq_true rfl, Nat.le_of_ble_eq_true rfl⟩) hK hP hD hS hA [2, 3] [0, 1] [0, 1, 2, 3] rfl (by decide) rfl (by decide) (by decide) rfl (by decide) rfl rfl rfl hl.1 rfl (Nat.le_of_ble_eq_true rfl) dX11_nearWords_30 ⟨Nat.zero_le _, Nat.zero_le _⟩ (fun H locs hP hD hS => ?_)
        obtain ⟨r4, hr4, hf⟩ := bd hf
        refine zSz (As := [.long p1, .long r3]) (rest := []) (wn := [(a0, .inr (8, [.ref a0_now, .ref a0_images, .ref a0_merges, .ref a0_cut, .ref a0_index, .ref a0_otherIndex, .ref a0_readWords, .ref a0_triedPattern, .ref a0_alike])), (a0_now, .inr (6, [.ref a0_now_tape, .ref a0_now_dictionary, .ref a0_now_coming, .ref a0_now_pattern, .ref a0_now_fault, .int v0_now_edits])), (a0_now_dictionary, .inr (5, [.ref a0_now_dictionary_rows, .int v0_now_dictionary_size])), (a0_now_dictionary_rows, .inl (D.2 2, 40, .inr (.inl g0_now_dictionary_rows)))]) ⟨hx, hb, hml, hown, hts⟩ (mX8_areNear l D H.size p1 r3 N r4 hr4) (va_cwS 2 hts gX11_nearWords_X8_areNear rfl rfl rfl (by decide +kernel) ⟨Nat.le_of_ble_eq_true rfl, Nat.le_of_ble_eq_true rfl⟩) hK hP hD hS hA [] [0, 1, 2, 3] [0, 1, 2, 3] rfl (by decide) rfl (by decide) (by decide) rfl (by decide) rfl hl.1 rfl (Nat.le_of_ble_eq_true rfl) dX11_nearWords_33 ⟨Nat.zero_le _, Nat.zero_le _⟩ (fun H locs hb_5 hP hD hS => ?_)
        refine lv_if_eq (tgt := 47) hx hb dX11_nearWords_36 (by decide) (fun c_6 => ?_) (fun c_6 => ?_)
        · replace hf := ip c_6 hf
          refine lv_iinc (v := (x5 + (1 : Int32))) (lv' := [(5, .int (x5 + (1 : Int32))), (0, .ref a0), (1, .long p1), (3, .long x3)]) hx hb dX11_nearWords_47 hl (k := 3) rfl rfl (by decide) rfl (fun ls hl => ?_)
          refine lv_goto (tgt := 5) hx hb dX11_nearWords_50 (by decide) ?_
          exact ih x3 (x5 + (1 : Int32)) H locs ls hf hP hD hS (lv_sub hl [1, 2, 3, 0] rfl)
        · replace hf := im c_6 hf
          refine lv_lload_n hx hb dX11_nearWords_39 rfl (lv_at hl 2 rfl) ?_
          refine lv_iload hx hb dX11_nearWords_40 (lv_at hl 3 rfl) ?_
          obtain ⟨r7, hr7, hf⟩ := bd hf
          refine zSl (As := [.int x5]) (rest := [.long x3]) (wn := [(a0, .inr (8, [.ref a0_now, .ref a0_images, .ref a0_merges, .ref a0_cut, .ref a0_index, .ref a0_otherIndex, .ref a0_readWords, .ref a0_triedPattern, .ref a0_alike])), (a0_now, .inr (6, [.ref a0_now_tape, .ref a0_now_dictionary, .ref a0_now_coming, .ref a0_now_pattern, .ref a0_now_fault, .int v0_now_edits])), (a0_now_dictionary, .inr (5, [.ref a0_now_dictionary_rows, .int v0_now_dictionary_size])), (a0_now_dictionary_rows, .inl (D.2 2, 40, .inr (.inl g0_now_dictionary_rows)))]) ⟨hx, hb, hml, hown, hts⟩ (mX0_bit l D H.size x5 r7 hr7) (va_cwS 1 hts gX11_nearWords_X0_bit rfl rfl rfl (by decide +kernel) ⟨Nat.le_of_ble_eq_true rfl, Nat.le_of_ble_eq_true rfl⟩) hK hP hD hS hA [] [0, 1, 2, 3] [0, 1, 2, 3] rfl (by decide) rfl (by decide) (by decide) rfl (by decide) rfl hl.1 rfl (Nat.le_of_ble_eq_true rfl) dX11_nearWords_42 ⟨Nat.zero_le _, Nat.zero_le _⟩ (fun H locs hP hD hS => ?_)
          refine lv_lor hx hb dX11_nearWords_45 ?_
          refine lv_lstore_n (lv' := [(3, .long (x3 ||| r7)), (0, .ref a0), (1, .long p1), (5, .int x5)]) hx hb dX11_nearWords_46 rfl hl (by decide) rfl (fun ls hl => ?_)
          refine lv_iinc (v := (x5 + (1 : Int32))) (lv' := [(5, .int (x5 + (1 : Int32))), (3, .long (x3 ||| r7)), (0, .ref a0), (1, .long p1)]) hx hb dX11_nearWords_47 hl (k := 3) rfl rfl (by decide) rfl (fun ls hl => ?_)
          refine lv_goto (tgt := 5) hx hb dX11_nearWords_50 (by decide) ?_
          exact ih (x3 ||| r7) (x5 + (1 : Int32)) H locs ls hf hP hD hS (lv_sub hl [2, 3, 1, 0] rfl)
  unfold fX11_nearWords at hf
  refine lv_lconst (v := 0) hx hb dX11_nearWords_0 (by decide) ?_
  refine lv_lstore_n (lv' := [(3, .long (0 : Int64)), (0, .ref a0), (1, .long p1)]) hx hb dX11_nearWords_1 rfl hl (by decide) rfl (fun ls hl => ?_)
  refine lv_iconst (v := 0) hx hb dX11_nearWords_2 (by decide) ?_
  refine lv_istore (lv' := [(5, .int (0 : Int32)), (3, .long (0 : Int64)), (0, .ref a0), (1, .long p1)]) hx hb dX11_nearWords_3 hl (by decide) rfl (fun ls hl => ?_)
  exact k5 N (0 : Int64) (0 : Int32) H locs ls hf hP hD hS (lv_sub hl [2, 3, 1, 0] rfl)
