def fX11_near (N : Nat) (v0_now_dictionary_size : Int32) (g0_now_dictionary_rows : Nat → Int64) (p1 : Int32) (p2 : Int32) : Option (Int32) :=
  Option.bind (fX7_hasNumber v0_now_dictionary_size p1) fun r1 =>
  if r1 = (0 : Int32) then
    some ((-2 : Int32))
  else
    Option.bind (fX7_at 40 v0_now_dictionary_size g0_now_dictionary_rows p1) fun r4 =>
    Option.bind (fX11_nearWords N v0_now_dictionary_size g0_now_dictionary_rows r4) fun r5 =>
    if p2 = (-1 : Int32) then
      Option.bind (fJ13_bitCount_95d88 r5) fun r9 =>
      some (r9)
    else
      Option.bind (fX0_numberOf N r5 p2) fun r7 =>
      if r7 = (-1 : Int32) then
        some ((-2 : Int32))
      else
        some (r7)
set_option maxHeartbeats 4000000 in
set_option maxRecDepth 100000 in
theorem mX11_near (l : Launch) (D : zG) (a0 : Nat) (a0_now : Nat) (a0_images : Nat) (a0_merges : Nat) (a0_cut : Nat) (a0_index : Nat) (a0_otherIndex : Nat) (a0_readWords : Nat) (a0_triedPattern : Nat) (a0_alike : Nat) (a0_now_tape : Nat) (a0_now_dictionary : Nat) (a0_now_coming : Nat) (a0_now_pattern : Nat) (a0_now_fault : Nat) (a0_now_dictionary_rows : Nat) (sz : Nat)  (v0_now_edits : Int32) (v0_now_dictionary_size : Int32) (g0_now_dictionary_rows : Nat → Int64) (p1 : Int32) (p2 : Int32) (N : Nat) (res : Int32) (hf : fX11_near N v0_now_dictionary_size g0_now_dictionary_rows p1 p2 = some res) : Met l yX11_near wsX11_near ({ frames := 4, cells := 0, slots := 0, locals := 94 } : Room) (va_Pc [.ref a0, .int p1, .int p2] (zW D sz [(a0, .inr (8, [.ref a0_now, .ref a0_images, .ref a0_merges, .ref a0_cut, .ref a0_index, .ref a0_otherIndex, .ref a0_readWords, .ref a0_triedPattern, .ref a0_alike])), (a0_now, .inr (6, [.ref a0_now_tape, .ref a0_now_dictionary, .ref a0_now_coming, .ref a0_now_pattern, .ref a0_now_fault, .int v0_now_edits])), (a0_now_dictionary, .inr (5, [.ref a0_now_dictionary_rows, .int v0_now_dictionary_size])), (a0_now_dictionary_rows, .inl (D.2 2, 40, .inr (.inl g0_now_dictionary_rows)))])) (va_Qi (fun r (_ : Unit) => r = res) (fun _ => zB D (va_A [(a0, .inr (8, [.ref a0_now, .ref a0_images, .ref a0_merges, .ref a0_cut, .ref a0_index, .ref a0_otherIndex, .ref a0_readWords, .ref a0_triedPattern, .ref a0_alike])), (a0_now, .inr (6, [.ref a0_now_tape, .ref a0_now_dictionary, .ref a0_now_coming, .ref a0_now_pattern, .ref a0_now_fault, .int v0_now_edits])), (a0_now_dictionary, .inr (5, [.ref a0_now_dictionary_rows, .int v0_now_dictionary_size])), (a0_now_dictionary_rows, .inl (D.2 2, 40, .inr (.inl g0_now_dictionary_rows)))] sz) [(a0, .inr (8, [.ref a0_now, .ref a0_images, .ref a0_merges, .ref a0_cut, .ref a0_index, .ref a0_otherIndex, .ref a0_readWords, .ref a0_triedPattern, .ref a0_alike])), (a0_now, .inr (6, [.ref a0_now_tape, .ref a0_now_dictionary, .ref a0_now_coming, .ref a0_now_pattern, .ref a0_now_fault, .int v0_now_edits])), (a0_now_dictionary, .inr (5, [.ref a0_now_dictionary_rows, .int v0_now_dictionary_size])), (a0_now_dictionary_rows, .inl (D.2 2, 40, .inr (.inl g0_now_dictionary_rows)))]) (va_A [(a0, .inr (8, [.ref a0_now, .ref a0_images, .ref a0_merges, .ref a0_cut, .ref a0_index, .ref a0_otherIndex, .ref a0_readWords, .ref a0_triedPattern, .ref a0_alike])), (a0_now, .inr (6, [.ref a0_now_tape, .ref a0_now_dictionary, .ref a0_now_coming, .ref a0_now_pattern, .ref a0_now_fault, .int v0_now_edits])), (a0_now_dictionary, .inr (5, [.ref a0_now_dictionary_rows, .int v0_now_dictionary_size])), (a0_now_dictionary_rows, .inl (D.2 2, 40, .inr (.inl g0_now_dictionary_rows)))] sz)) 0 0 (va_A [(a0, .inr (8, [.ref a0_now, .ref a0_images, .ref a0_merges, .ref a0_cut, .ref a0_index, .ref a0_otherIndex, .ref a0_readWords, .ref a0_triedPattern, .ref a0_alike])), (a0_now, .inr (6, [.ref a0_now_tape, .ref a0_now_dictionary, .ref a0_now_coming, .ref a0_now_pattern, .ref a0_now_fault, .int v0_now_edits])), (a0_now_dictionary, .inr (5, [.ref a0_now_dictionary_rows, .int v0_now_dictionary_size])), (a0_now_dictionary_rows, .inl (D.2 2, 40, .inr (.inl g0_now_dictionary_rows)))] sz) := by
  refine Met.ofW (cc := cX11_near) (maxL := 6) (ret := (some .int)) (by decide) rfl ?_
  intro p e s m args below meth c s₁ B hml hv
  obtain ⟨rfl, hsz, hP, hK, hD0⟩ := hv
  have hx := B.exec
  have hb := B.bytes
  have hr := B.returns
  have hts := atoms_spec (ws := wsX11_near) B.pre
  have hown : s.vm.findClass RX11 = some m.cls := findClass_of_methodNamed B.named
  have hlocks := B.notSynchronized
  subst hsz
  have hD := hD0.self (sz := s.heap.size)
  generalize hAe : va_A [(a0, .inr (8, [.ref a0_now, .ref a0_images, .ref a0_merges, .ref a0_cut, .ref a0_index, .ref a0_otherIndex, .ref a0_readWords, .ref a0_triedPattern, .ref a0_alike])), (a0_now, .inr (6, [.ref a0_now_tape, .ref a0_now_dictionary, .ref a0_now_coming, .ref a0_now_pattern, .ref a0_now_fault, .int v0_now_edits])), (a0_now_dictionary, .inr (5, [.ref a0_now_dictionary_rows, .int v0_now_dictionary_size])), (a0_now_dictionary_rows, .inl (D.2 2, 40, .inr (.inl g0_now_dictionary_rows)))] s.heap.size = A at hD ⊢
  have hA : ∀ q : Nat, s.heap.size ≤ q → A q := fun q h => by rw [← hAe]; exact Or.inr h
  have l12 := zat hts 1 (w := .fieldLink RX11 12 "TurnedWords" "now" "LTurnedWords$State;") rfl
  have l112 := zat hts 2 (w := .fieldLink RX11 112 "TurnedWords$State" "dictionary" "LTurnedWords$Rising;") rfl
  have hwX11 : ∀ w ∈ u_ws RX11 TX11 9, w ∈ wsX11_near := fun w h => List.mem_cons_of_mem _ (List.mem_append_left _ (List.mem_append_left _ (List.mem_append_right _ h)))
  have hwX9 : ∀ w ∈ u_ws RX9 TX9 6, w ∈ wsX11_near := fun w h => List.mem_cons_of_mem _ (List.mem_append_left _ (List.mem_append_right _ h))
  have hl := lv_entry ([.ref a0, .int p1, .int p2]) (n := 6) (Nat.le_of_ble_eq_true rfl)
  rw [lg_entry_eq]
  generalize (lg_sl ([.ref a0, .int p1, .int p2]) ++ List.replicate (6 - (lg_sl ([.ref a0, .int p1, .int p2])).length) Slot.unset).toArray = ls at hl ⊢
  have hl : lv_has ls 6 [(0, .ref a0), (1, .int p1), (2, .int p2)] := hl
  refine zStart (A := A) hP (fun Q0 H locs hQ hP hS => ?_)
  unfold fX11_near at hf
  refine lv_aload_n hx hb dX11_near_0 rfl (lv_at hl 0 rfl) ?_
  refine va_get (D := D.1) (ci := 8) (v := .ref a0_now) (C := RX11) (T := TX11) (N := 9) hx hb hts hwX11 hown hK.1 hP 0 rfl rfl 0 (by decide) l12 (fun _ h9 => h9) rfl dX11_near_1 ?_
  refine va_get (D := D.1) (ci := 6) (v := .ref a0_now_dictionary) (C := RX9) (T := TX9) (N := 6) hx hb hts hwX9 hown hK.1 hP 1 rfl rfl 1 (by decide) l112 (fun _ h9 => h9) rfl dX11_near_4 ?_
  refine lv_iload_n hx hb dX11_near_7 rfl (lv_at hl 1 rfl) ?_
  obtain ⟨r1, hr1, hf⟩ := bd hf
  refine zVz (As := [.int p1]) (rest := []) (ci := 5) (q0 := 0) (wn := [(a0, .inr (8, [.ref a0_now, .ref a0_images, .ref a0_merges, .ref a0_cut, .ref a0_index, .ref a0_otherIndex, .ref a0_readWords, .ref a0_triedPattern, .ref a0_alike])), (a0_now, .inr (6, [.ref a0_now_tape, .ref a0_now_dictionary, .ref a0_now_coming, .ref a0_now_pattern, .ref a0_now_fault, .int v0_now_edits])), (a0_now_dictionary, .inr (5, [.ref a0_now_dictionary_rows, .int v0_now_dictionary_size])), (a0_now_dictionary_rows, .inl (D.2 2, 40, .inr (.inl g0_now_dictionary_rows)))]) ⟨hx, hb, hml, hown, hts⟩ (mX7_hasNumber l D a0_now_dictionary a0_now_dictionary_rows H.size v0_now_dictionary_size p1 r1 hr1) (cwV 1 hts gX11_near_X7_hasNumber rfl rfl rfl (by decide +kernel) ⟨Nat.le_of_ble_eq_true rfl, Nat.le_of_ble_eq_true rfl⟩) hK hP hD hS hA [2] [0, 1, 3] [0, 1, 3, 2] rfl (by decide) rfl (by decide) (by decide) rfl (by decide) rfl rfl rfl hl.1 rfl (Nat.le_of_ble_eq_true rfl) dX11_near_8 ⟨Nat.zero_le _, Nat.zero_le _⟩ (fun H locs hb_2 hP hD hS => ?_)
  refine lv_if_ne (tgt := 17) hx hb dX11_near_11 (by decide) (fun c_3 => ?_) (fun c_3 => ?_)
  · replace hf := im c_3 hf
    refine lv_aload_n hx hb dX11_near_17 rfl (lv_at hl 0 rfl) ?_
    refine lv_aload_n hx hb dX11_near_18 rfl (lv_at hl 0 rfl) ?_
    refine va_get (D := D.1) (ci := 8) (v := .ref a0_now) (C := RX11) (T := TX11) (N := 9) hx hb hts hwX11 hown hK.1 hP 0 rfl rfl 0 (by decide) l12 (fun _ h9 => h9) rfl dX11_near_19 ?_
    refine va_get (D := D.1) (ci := 6) (v := .ref a0_now_dictionary) (C := RX9) (T := TX9) (N := 6) hx hb hts hwX9 hown hK.1 hP 1 rfl rfl 1 (by decide) l112 (fun _ h9 => h9) rfl dX11_near_22 ?_
    refine lv_iload_n hx hb dX11_near_25 rfl (lv_at hl 1 rfl) ?_
    obtain ⟨r4, hr4, hf⟩ := bd hf
    refine zVl (As := [.int p1]) (rest := [.ref a0]) (ci := 5) (q0 := 0) (wn := [(a0, .inr (8, [.ref a0_now, .ref a0_images, .ref a0_merges, .ref a0_cut, .ref a0_index, .ref a0_otherIndex, .ref a0_readWords, .ref a0_triedPattern, .ref a0_alike])), (a0_now, .inr (6, [.ref a0_now_tape, .ref a0_now_dictionary, .ref a0_now_coming, .ref a0_now_pattern, .ref a0_now_fault, .int v0_now_edits])), (a0_now_dictionary, .inr (5, [.ref a0_now_dictionary_rows, .int v0_now_dictionary_size])), (a0_now_dictionary_rows, .inl (D.2 2, 40, .inr (.inl g0_now_dictionary_rows)))]) ⟨hx, hb, hml, hown, hts⟩ (mX7_at l D a0_now_dictionary a0_now_dictionary_rows H.size 40 v0_now_dictionary_size g0_now_dictionary_rows p1 r4 hr4) (cwV 1 hts gX11_near_X7_at rfl rfl rfl (by decide +kernel) ⟨Nat.le_of_ble_eq_true rfl, Nat.le_of_ble_eq_true rfl⟩) hK hP hD hS hA [2, 3] [0, 1] [0, 1, 2, 3] rfl (by decide) rfl (by decide) (by decide) rfl (by decide) rfl rfl rfl hl.1 rfl (Nat.le_of_ble_eq_true rfl) dX11_near_26 ⟨Nat.zero_le _, Nat.zero_le _⟩ (fun H locs hP hD hS => ?_)
    obtain ⟨r5, hr5, hf⟩ := bd hf
    refine zVl (As := [.long r4]) (rest := []) (ci := 8) (q0 := 0) (wn := [(a0, .inr (8, [.ref a0_now, .ref a0_images, .ref a0_merges, .ref a0_cut, .ref a0_index, .ref a0_otherIndex, .ref a0_readWords, .ref a0_triedPattern, .ref a0_alike])), (a0_now, .inr (6, [.ref a0_now_tape, .ref a0_now_dictionary, .ref a0_now_coming, .ref a0_now_pattern, .ref a0_now_fault, .int v0_now_edits])), (a0_now_dictionary, .inr (5, [.ref a0_now_dictionary_rows, .int v0_now_dictionary_size])), (a0_now_dictionary_rows, .inl (D.2 2, 40, .inr (.inl g0_now_dictionary_rows)))]) ⟨hx, hb, hml, hown, hts⟩ (mX11_nearWords l D a0 a0_now a0_images a0_merges a0_cut a0_index a0_otherIndex a0_readWords a0_triedPattern a0_alike a0_now_tape a0_now_dictionary a0_now_coming a0_now_pattern a0_now_fault a0_now_dictionary_rows H.size v0_now_edits v0_now_dictionary_size g0_now_dictionary_rows r4 N r5 hr5) (cwV 1 hts gX11_near_X11_nearWords rfl rfl rfl (by decide +kernel) ⟨Nat.le_of_ble_eq_true rfl, Nat.le_of_ble_eq_true rfl⟩) hK hP hD hS hA [0, 1, 2, 3] [] [0, 1, 2, 3] rfl (by decide) rfl (by decide) (by decide) rfl (by decide) rfl rfl rfl hl.1 rfl (Nat.le_of_ble_eq_true rfl) dX11_near_29 ⟨Nat.zero_le _, Nat.zero_le _⟩ (fun H locs hP hD hS => ?_)
    refine lv_lstore_n (lv' := [(3, .long r5), (0, .ref a0), (1, .int p1), (2, .int p2)]) hx hb dX11_near_32 rfl hl (by decide) rfl (fun ls hl => ?_)
    refine lv_iload_n hx hb dX11_near_33 rfl (lv_at hl 3 rfl) ?_
    refine lv_iconst (v := -1) hx hb dX11_near_34 (by decide) ?_
    refine lv_icmp_ne (tgt := 43) hx hb dX11_near_35 (by decide) (fun c_6 => ?_) (fun c_6 => ?_)
    · replace hf := im c_6 hf
      refine lv_lload_n hx hb dX11_near_43 rfl (lv_at hl 0 rfl) ?_
      refine lv_iload_n hx hb dX11_near_44 rfl (lv_at hl 3 rfl) ?_
      obtain ⟨r7, hr7, hf⟩ := bd hf
      refine zSi (As := [.long r5, .int p2]) (rest := []) (wn := [(a0, .inr (8, [.ref a0_now, .ref a0_images, .ref a0_merges, .ref a0_cut, .ref a0_index, .ref a0_otherIndex, .ref a0_readWords, .ref a0_triedPattern, .ref a0_alike])), (a0_now, .inr (6, [.ref a0_now_tape, .ref a0_now_dictionary, .ref a0_now_coming, .ref a0_now_pattern, .ref a0_now_fault, .int v0_now_edits])), (a0_now_dictionary, .inr (5, [.ref a0_now_dictionary_rows, .int v0_now_dictionary_size])), (a0_now_dictionary_rows, .inl (D.2 2, 40, .inr (.inl g0_now_dictionary_rows)))]) ⟨hx, hb, hml, hown, hts⟩ (mX0_numberOf l D H.size r5 p2 N r7 hr7) (va_cwS 2 hts gX11_near_X0_numberOf rfl rfl rfl (by decide +kernel) ⟨Nat.le_of_ble_eq_true rfl, Nat.le_of_ble_eq_true rfl⟩) hK hP hD hS hA [] [0, 1, 2, 3] [0, 1, 2, 3] rfl (by decide) rfl (by decide) (by decide) rfl (by decide) rfl hl.1 rfl (Nat.le_of_ble_eq_true rfl) dX11_near_45 ⟨Nat.zero_le _, Nat.zero_le _⟩ (fun H locs hP hD hS => ?_)
      refine lv_istore (lv' := [(5, .int r7), (3, .long r5), (0, .ref a0), (1, .int p1), (2, .int p2)]) hx hb dX11_near_48 hl (by decide) rfl (fun ls hl => ?_)
      refine lv_iload hx hb dX11_near_50 (lv_at hl 0 rfl) ?_
      refine lv_iconst (v := -1) hx hb dX11_near_52 (by decide) ?_
      refine lv_icmp_ne (tgt := 61) hx hb dX11_near_53 (by decide) (fun c_8 => ?_) (fun c_8 => ?_)
      · replace hf := im c_8 hf
        refine lv_iload hx hb dX11_near_61 (lv_at hl 0 rfl) ?_
        have he := Option.some.inj hf
        rw [hQ]
        exact W.iret (v := r7) hx hb hr (fun t ht hW => by rw [← he]; exact ⟨⟨r7, (), rfl, rfl, by rw [ht]; exact hP, hD⟩, hS.F ht⟩) hS.2.2 dX11_near_63
      · replace hf := ip c_8 hf
        refine lv_bipush (v := -2) hx hb dX11_near_56 (by decide) ?_
        refine lv_goto (tgt := 63) hx hb dX11_near_58 (by decide) ?_
        have he := Option.some.inj hf
        rw [hQ]
        exact W.iret (v := (-2 : Int32)) hx hb hr (fun t ht hW => by rw [← he]; exact ⟨⟨(-2 : Int32), (), rfl, rfl, by rw [ht]; exact hP, hD⟩, hS.F ht⟩) hS.2.2 dX11_near_63
    · replace hf := ip c_6 hf
      refine lv_lload_n hx hb dX11_near_38 rfl (lv_at hl 0 rfl) ?_
      obtain ⟨r9, hr9, hf⟩ := bd hf
      refine zSi (As := [.long r5]) (rest := []) (wn := [(a0, .inr (8, [.ref a0_now, .ref a0_images, .ref a0_merges, .ref a0_cut, .ref a0_index, .ref a0_otherIndex, .ref a0_readWords, .ref a0_triedPattern, .ref a0_alike])), (a0_now, .inr (6, [.ref a0_now_tape, .ref a0_now_dictionary, .ref a0_now_coming, .ref a0_now_pattern, .ref a0_now_fault, .int v0_now_edits])), (a0_now_dictionary, .inr (5, [.ref a0_now_dictionary_rows, .int v0_now_dictionary_size])), (a0_now_dictionary_rows, .inl (D.2 2, 40, .inr (.inl g0_now_dictionary_rows)))]) ⟨hx, hb, hml, hown, hts⟩ (mJ13_bitCount_95d88 l D H.size r5 r9 hr9) (va_cwS 1 hts gX11_near_J13_bitCount_95d88 rfl rfl rfl (by decide +kernel) ⟨Nat.le_of_ble_eq_true rfl, Nat.le_of_ble_eq_true rfl⟩) hK hP hD hS hA [] [0, 1, 2, 3] [0, 1, 2, 3] rfl (by decide) rfl (by decide) (by decide) rfl (by decide) rfl hl.1 rfl (Nat.le_of_ble_eq_true rfl) dX11_near_39 ⟨Nat.zero_le _, Nat.zero_le _⟩ (fun H locs hP hD hS => ?_)
      have he := Option.some.inj hf
      rw [hQ]
      exact W.iret (v := r9) hx hb hr (fun t ht hW => by rw [← he]; exact ⟨⟨r9, (), rfl, rfl, by rw [ht]; exact hP, hD⟩, hS.F ht⟩) hS.2.2 dX11_near_42
  · replace hf := ip c_3 hf
    refine lv_bipush (v := -2) hx hb dX11_near_14 (by decide) ?_
    have he := Option.some.inj hf
    rw [hQ]
    exact W.iret (v := (-2 : Int32)) hx hb hr (fun t ht hW => by rw [← he]; exact ⟨⟨(-2 : Int32), (), rfl, rfl, by rw [ht]; exact hP, hD⟩, hS.F ht⟩) hS.2.2 dX11_near_16
def fX11_wordsWithLetter_4 (N : Nat) (v0_now_dictionary_size : Int32) (g0_now_dictionary_rows : Nat → Int64) (p1 : Int32) : Nat → Int32 → Int32 → Option (Int32)
  | 0, _, _ => none
  | K + 1, x2, x3 =>
    Option.bind (fX7_size v0_now_dictionary_size) fun r1 =>
    if r1 ≤ x3 then
      some (x2)
    else
      Option.bind (fX7_at 40 v0_now_dictionary_size g0_now_dictionary_rows x3) fun r3 =>
      Option.bind (fX8_placesOf N r3 p1) fun r4 =>
      if r4 = (0 : Int32) then
        (fX11_wordsWithLetter_4 N v0_now_dictionary_size g0_now_dictionary_rows p1 K) x2 (x3 + (1 : Int32))
      else
        (fX11_wordsWithLetter_4 N v0_now_dictionary_size g0_now_dictionary_rows p1 K) (x2 + (1 : Int32)) (x3 + (1 : Int32))
def fX11_wordsWithLetter (N : Nat) (v0_now_dictionary_size : Int32) (g0_now_dictionary_rows : Nat → Int64) (p1 : Int32) : Option (Int32) :=
  fX11_wordsWithLetter_4 N v0_now_dictionary_size g0_now_dictionary_rows p1 N (0 : Int32) (0 : Int32)
set_option maxHeartbeats 4000000 in
set_option maxRecDepth 100000 in
theorem mX11_wordsWithLetter (l : Launch) (D : zG) (a0 : Nat) (a0_now : Nat) (a0_images : Nat) (a0_merges : Nat) (a0_cut : Nat) (a0_index : Nat) (a0_otherIndex : Nat) (a0_readWords : Nat) (a0_triedPattern : Nat) (a0_alike : Nat) (a0_now_tape : Nat) (a0_now_dictionary : Nat) (a0_now_coming : Nat) (a0_now_pattern : Nat) (a0_now_fault : Nat) (a0_now_dictionary_rows : Nat) (sz : Nat)  (v0_now_edits : Int32) (v0_now_dictionary_size : Int32) (g0_now_dictionary_rows : Nat → Int64) (p1 : Int32) (N : Nat) (res : Int32) (hf : fX11_wordsWithLetter N v0_now_dictionary_size g0_now_dictionary_rows p1 = some res) : Met l yX11_wordsWithLetter wsX11_wordsWithLetter ({ frames := 2, cells := 0, slots := 0, locals := 47 } : Room) (va_Pc [.ref a0, .int p1] (zW D sz [(a0, .inr (8, [.ref a0_now, .ref a0_images, .ref a0_merges, .ref a0_cut, .ref a0_index, .ref a0_otherIndex, .ref a0_readWords, .ref a0_triedPattern, .ref a0_alike])), (a0_now, .inr (6, [.ref a0_now_tape, .ref a0_now_dictionary, .ref a0_now_coming, .ref a0_now_pattern, .ref a0_now_fault, .int v0_now_edits])), (a0_now_dictionary, .inr (5, [.ref a0_now_dictionary_rows, .int v0_now_dictionary_size])), (a0_now_dictionary_rows, .inl (D.2 2, 40, .inr (.inl g0_now_dictionary_rows)))])) (va_Qi (fun r (_ : Unit) => r = res) (fun _ => zB D (va_A [(a0, .inr (8, [.ref a0_now, .ref a0_images, .ref a0_merges, .ref a0_cut, .ref a0_index, .ref a0_otherIndex, .ref a0_readWords, .ref a0_triedPattern, .ref a0_alike])), (a0_now, .inr (6, [.ref a0_now_tape, .ref a0_now_dictionary, .ref a0_now_coming, .ref a0_now_pattern, .ref a0_now_fault, .int v0_now_edits])), (a0_now_dictionary, .inr (5, [.ref a0_now_dictionary_rows, .int v0_now_dictionary_size])), (a0_now_dictionary_rows, .inl (D.2 2, 40, .inr (.inl g0_now_dictionary_rows)))] sz) [(a0, .inr (8, [.ref a0_now, .ref a0_images, .ref a0_merges, .ref a0_cut, .ref a0_index, .ref a0_otherIndex, .ref a0_readWords, .ref a0_triedPattern, .ref a0_alike])), (a0_now, .inr (6, [.ref a0_now_tape, .ref a0_now_dictionary, .ref a0_now_coming, .ref a0_now_pattern, .ref a0_now_fault, .int v0_now_edits])), (a0_now_dictionary, .inr (5, [.ref a0_now_dictionary_rows, .int v0_now_dictionary_size])), (a0_now_dictionary_rows, .inl (D.2 2, 40, .inr (.inl g0_now_dictionary_rows)))]) (va_A [(a0, .inr (8, [.ref a0_now, .ref a0_images, .ref a0_merges, .ref a0_cut, .ref a0_index, .ref a0_otherIndex, .ref a0_readWords, .ref a0_triedPattern, .ref a0_alike])), (a0_now, .inr (6, [.ref a0_now_tape, .ref a0_now_dictionary, .ref a0_now_coming, .ref a0_now_pattern, .ref a0_now_fault, .int v0_now_edits])), (a0_now_dictionary, .inr (5, [.ref a0_now_dictionary_rows, .int v0_now_dictionary_size])), (a0_now_dictionary_rows, .inl (D.2 2, 40, .inr (.inl g0_now_dictionary_rows)))] sz)) 0 0 (va_A [(a0, .inr (8, [.ref a0_now, .ref a0_images, .ref a0_merges, .ref a0_cut, .ref a0_index, .ref a0_otherIndex, .ref a0_readWords, .ref a0_triedPattern, .ref a0_alike])), (a0_now, .inr (6, [.ref a0_now_tape, .ref a0_now_dictionary, .ref a0_now_coming, .ref a0_now_pattern, .ref a0_now_fault, .int v0_now_edits])), (a0_now_dictionary, .inr (5, [.ref a0_now_dictionary_rows, .int v0_now_dictionary_size])), (a0_now_dictionary_rows, .inl (D.2 2, 40, .inr (.inl g0_now_dictionary_rows)))] sz) := by
  refine Met.ofW (cc := cX11_wordsWithLetter) (maxL := 4) (ret := (some .int)) (by decide) rfl ?_
  intro p e s m args below meth c s₁ B hml hv
  obtain ⟨rfl, hsz, hP, hK, hD0⟩ := hv
  have hx := B.exec
  have hb := B.bytes
  have hr := B.returns
  have hts := atoms_spec (ws := wsX11_wordsWithLetter) B.pre
  have hown : s.vm.findClass RX11 = some m.cls := findClass_of_methodNamed B.named
  have hlocks := B.notSynchronized
  subst hsz
  have hD := hD0.self (sz := s.heap.size)
  generalize hAe : va_A [(a0, .inr (8, [.ref a0_now, .ref a0_images, .ref a0_merges, .ref a0_cut, .ref a0_index, .ref a0_otherIndex, .ref a0_readWords, .ref a0_triedPattern, .ref a0_alike])), (a0_now, .inr (6, [.ref a0_now_tape, .ref a0_now_dictionary, .ref a0_now_coming, .ref a0_now_pattern, .ref a0_now_fault, .int v0_now_edits])), (a0_now_dictionary, .inr (5, [.ref a0_now_dictionary_rows, .int v0_now_dictionary_size])), (a0_now_dictionary_rows, .inl (D.2 2, 40, .inr (.inl g0_now_dictionary_rows)))] s.heap.size = A at hD ⊢
  have hA : ∀ q : Nat, s.heap.size ≤ q → A q := fun q h => by rw [← hAe]; exact Or.inr h
  have l12 := zat hts 1 (w := .fieldLink RX11 12 "TurnedWords" "now" "LTurnedWords$State;") rfl
  have l112 := zat hts 2 (w := .fieldLink RX11 112 "TurnedWords$State" "dictionary" "LTurnedWords$Rising;") rfl
  have hwX11 : ∀ w ∈ u_ws RX11 TX11 9, w ∈ wsX11_wordsWithLetter := fun w h => List.mem_cons_of_mem _ (List.mem_append_left _ (List.mem_append_left _ (List.mem_append_right _ h)))
  have hwX9 : ∀ w ∈ u_ws RX9 TX9 6, w ∈ wsX11_wordsWithLetter := fun w h => List.mem_cons_of_mem _ (List.mem_append_left _ (List.mem_append_right _ h))
  have hl := lv_entry ([.ref a0, .int p1]) (n := 4) (Nat.le_of_ble_eq_true rfl)
  rw [lg_entry_eq]
  generalize (lg_sl ([.ref a0, .int p1]) ++ List.replicate (4 - (lg_sl ([.ref a0, .int p1])).length) Slot.unset).toArray = ls at hl ⊢
  have hl : lv_has ls 4 [(0, .ref a0), (1, .int p1)] := hl
  refine zStart (A := A) hP (fun Q0 H locs hQ hP hS => ?_)
  have k4 : ∀ K : Nat, ∀ (x2 : Int32) (x3 : Int32) (H : Heap) (locs : List Loc) (ls : Array Slot), fX11_wordsWithLetter_4 N v0_now_dictionary_size g0_now_dictionary_rows p1 K x2 x3 = some res → va_P D.1 vwCl [(a0, .inr (8, [.ref a0_now, .ref a0_images, .ref a0_merges, .ref a0_cut, .ref a0_index, .ref a0_otherIndex, .ref a0_readWords, .ref a0_triedPattern, .ref a0_alike])), (a0_now, .inr (6, [.ref a0_now_tape, .ref a0_now_dictionary, .ref a0_now_coming, .ref a0_now_pattern, .ref a0_now_fault, .int v0_now_edits])), (a0_now_dictionary, .inr (5, [.ref a0_now_dictionary_rows, .int v0_now_dictionary_size])), (a0_now_dictionary_rows, .inl (D.2 2, 40, .inr (.inl g0_now_dictionary_rows)))] H → va_D A [(a0, .inr (8, [.ref a0_now, .ref a0_images, .ref a0_merges, .ref a0_cut, .ref a0_index, .ref a0_otherIndex, .ref a0_readWords, .ref a0_triedPattern, .ref a0_alike])), (a0_now, .inr (6, [.ref a0_now_tape, .ref a0_now_dictionary, .ref a0_now_coming, .ref a0_now_pattern, .ref a0_now_fault, .int v0_now_edits])), (a0_now_dictionary, .inr (5, [.ref a0_now_dictionary_rows, .int v0_now_dictionary_size])), (a0_now_dictionary_rows, .inl (D.2 2, 40, .inr (.inl g0_now_dictionary_rows)))] → va_S A s.heap H locs → lv_has ls 4 [(0, .ref a0), (1, .int p1), (2, .int x2), (3, .int x3)] → W p l e (headSpec wsX11_wordsWithLetter ({ frames := 2, cells := 0, slots := 0, locals := 47 } : Room)).room s m ([.ref a0, .int p1] : List Value).toArray below meth c H locs 0 0 Q0 (F0 m 4 ls []) := by
    intro K
    induction K with
    | zero =>
      intro x2 x3 H locs ls hf
      rw [fX11_wordsWithLetter_4] at hf
      cases hf
    | succ K ih =>
      intro x2 x3 H locs ls hf hP hD hS hl
      rw [fX11_wordsWithLetter_4] at hf
      refine lv_iload_n hx hb dX11_wordsWithLetter_4 rfl (lv_at hl 3 rfl) ?_
      refine lv_aload_n hx hb dX11_wordsWithLetter_5 rfl (lv_at hl 0 rfl) ?_
      refine va_get (D := D.1) (ci := 8) (v := .ref a0_now) (C := RX11) (T := TX11) (N := 9) hx hb hts hwX11 hown hK.1 hP 0 rfl rfl 0 (by decide) l12 (fun _ h9 => h9) rfl dX11_wordsWithLetter_6 ?_
      refine va_get (D := D.1) (ci := 6) (v := .ref a0_now_dictionary) (C := RX9) (T := TX9) (N := 6) hx hb hts hwX9 hown hK.1 hP 1 rfl rfl 1 (by decide) l112 (fun _ h9 => h9) rfl dX11_wordsWithLetter_9 ?_
      obtain ⟨r1, hr1, hf⟩ := bd hf
      refine zVi (As := []) (rest := [.int x3]) (ci := 5) (q0 := 0) (wn := [(a0, .inr (8, [.ref a0_now, .ref a0_images, .ref a0_merges, .ref a0_cut, .ref a0_index, .ref a0_otherIndex, .ref a0_readWords, .ref a0_triedPattern, .ref a0_alike])), (a0_now, .inr (6, [.ref a0_now_tape, .ref a0_now_dictionary, .ref a0_now_coming, .ref a0_now_pattern, .ref a0_now_fault, .int v0_now_edits])), (a0_now_dictionary, .inr (5, [.ref a0_now_dictionary_rows, .int v0_now_dictionary_size])), (a0_now_dictionary_rows, .inl (D.2 2, 40, .inr (.inl g0_now_dictionary_rows)))]) ⟨hx, hb, hml, hown, hts⟩ (mX7_size l D a0_now_dictionary a0_now_dictionary_rows H.size v0_now_dictionary_size r1 hr1) (cwV 0 hts gX11_wordsWithLetter_X7_size rfl rfl rfl (by decide +kernel) ⟨Nat.le_of_ble_eq_true rfl, Nat.le_of_ble_eq_true rfl⟩) hK hP hD hS hA [2] [0, 1, 3] [0, 1, 3, 2] rfl (by decide) rfl (by decide) (by decide) rfl (by decide) rfl rfl rfl hl.1 rfl (Nat.le_of_ble_eq_true rfl) dX11_wordsWithLetter_12 ⟨Nat.zero_le _, Nat.zero_le _⟩ (fun H locs hP hD hS => ?_)
      refine lv_icmp_ge (tgt := 45) hx hb dX11_wordsWithLetter_15 (by decide) (fun c_2 => ?_) (fun c_2 => ?_)
      · replace hf := ip c_2 hf
        refine lv_iload_n hx hb dX11_wordsWithLetter_45 rfl (lv_at hl 2 rfl) ?_
        have he := Option.some.inj hf
        rw [hQ]
        exact W.iret (v := x2) hx hb hr (fun t ht hW => by rw [← he]; exact ⟨⟨x2, (), rfl, rfl, by rw [ht]; exact hP, hD⟩, hS.F ht⟩) hS.2.2 dX11_wordsWithLetter_46
      · replace hf := im c_2 hf
        refine lv_aload_n hx hb dX11_wordsWithLetter_18 rfl (lv_at hl 0 rfl) ?_
        refine va_get (D := D.1) (ci := 8) (v := .ref a0_now) (C := RX11) (T := TX11) (N := 9) hx hb hts hwX11 hown hK.1 hP 0 rfl rfl 0 (by decide) l12 (fun _ h9 => h9) rfl dX11_wordsWithLetter_19 ?_
        refine va_get (D := D.1) (ci := 6) (v := .ref a0_now_dictionary) (C := RX9) (T := TX9) (N := 6) hx hb hts hwX9 hown hK.1 hP 1 rfl rfl 1 (by decide) l112 (fun _ h9 => h9) rfl dX11_wordsWithLetter_22 ?_
        refine lv_iload_n hx hb dX11_wordsWithLetter_25 rfl (lv_at hl 3 rfl) ?_
        obtain ⟨r3, hr3, hf⟩ := bd hf
        refine zVl (As := [.int x3]) (rest := []) (ci := 5) (q0 := 0) (wn := [(a0, .inr (8, [.ref a0_now, .ref a0_images, .ref a0_merges, .ref a0_cut, .ref a0_index, .ref a0_otherIndex, .ref a0_readWords, .ref a0_triedPattern, .ref a0_alike])), (a0_now, .inr (6, [.ref a0_now_tape, .ref a0_now_dictionary, .ref a0_now_coming, .ref a0_now_pattern, .ref a0_now_fault, .int v0_now_edits])), (a0_now_dictionary, .inr (5, [.ref a0_now_dictionary_rows, .int v0_now_dictionary_size])), (a0_now_dictionary_rows, .inl (D.2 2, 40, .inr (.inl g0_now_dictionary_rows)))]) ⟨hx, hb, hml, hown, hts⟩ (mX7_at l D a0_now_dictionary a0_now_dictionary_rows H.size 40 v0_now_dictionary_size g0_now_dictionary_rows x3 r3 hr3) (cwV 1 hts gX11_wordsWithLetter_X7_at rfl rfl rfl (by decide +kernel) ⟨Nat.le_of_ble_eq_true rfl, Nat.le_of_ble_eq_true rfl⟩) hK hP hD hS hA [2, 3] [0, 1] [0, 1, 2, 3] rfl (by decide) rfl (by decide) (by decide) rfl (by decide) rfl rfl rfl hl.1 rfl (Nat.le_of_ble_eq_true rfl) dX11_wordsWithLetter_26 ⟨Nat.zero_le _, Nat.zero_le _⟩ (fun H locs hP hD hS => ?_)
        refine lv_iload_n hx hb dX11_wordsWithLetter_29 rfl (lv_at hl 1 rfl) ?_
        obtain ⟨r4, hr4, hf⟩ := bd hf
        refine zSi (As := [.long r3, .int p1]) (rest := []) (wn := [(a0, .inr (8, [.ref a0_now, .ref a0_images, .ref a0_merges, .ref a0_cut, .ref a0_index, .ref a0_otherIndex, .ref a0_readWords, .ref a0_triedPattern, .ref a0_alike])), (a0_now, .inr (6, [.ref a0_now_tape, .ref a0_now_dictionary, .ref a0_now_coming, .ref a0_now_pattern, .ref a0_now_fault, .int v0_now_edits])), (a0_now_dictionary, .inr (5, [.ref a0_now_dictionary_rows, .int v0_now_dictionary_size])), (a0_now_dictionary_rows, .inl (D.2 2, 40, .inr (.inl g0_now_dictionary_rows)))]) ⟨hx, hb, hml, hown, hts⟩ (mX8_placesOf l D H.size r3 p1 N r4 hr4) (va_cwS 2 hts gX11_wordsWithLetter_X8_placesOf rfl rfl rfl (by decide +kernel) ⟨Nat.le_of_ble_eq_true rfl, Nat.le_of_ble_eq_true rfl⟩) hK hP hD hS hA [] [0, 1, 2, 3] [0, 1, 2, 3] rfl (by decide) rfl (by decide) (by decide) rfl (by decide) rfl hl.1 rfl (Nat.le_of_ble_eq_true rfl) dX11_wordsWithLetter_30 ⟨Nat.zero_le _, Nat.zero_le _⟩ (fun H locs hP hD hS => ?_)
        refine lv_if_eq (tgt := 39) hx hb dX11_wordsWithLetter_33 (by decide) (fun c_5 => ?_) (fun c_5 => ?_)
        · replace hf := ip c_5 hf
          refine lv_iinc (v := (x3 + (1 : Int32))) (lv' := [(3, .int (x3 + (1 : Int32))), (0, .ref a0), (1, .int p1), (2, .int x2)]) hx hb dX11_wordsWithLetter_39 hl (k := 3) rfl rfl (by decide) rfl (fun ls hl => ?_)
          refine lv_goto (tgt := 4) hx hb dX11_wordsWithLetter_42 (by decide) ?_
          exact ih x2 (x3 + (1 : Int32)) H locs ls hf hP hD hS (lv_sub hl [1, 2, 3, 0] rfl)
        · replace hf := im c_5 hf
          refine lv_iinc (v := (x2 + (1 : Int32))) (lv' := [(2, .int (x2 + (1 : Int32))), (0, .ref a0), (1, .int p1), (3, .int x3)]) hx hb dX11_wordsWithLetter_36 hl (k := 2) rfl rfl (by decide) rfl (fun ls hl => ?_)
          refine lv_iinc (v := (x3 + (1 : Int32))) (lv' := [(3, .int (x3 + (1 : Int32))), (2, .int (x2 + (1 : Int32))), (0, .ref a0), (1, .int p1)]) hx hb dX11_wordsWithLetter_39 hl (k := 3) rfl rfl (by decide) rfl (fun ls hl => ?_)
          refine lv_goto (tgt := 4) hx hb dX11_wordsWithLetter_42 (by decide) ?_
          exact ih (x2 + (1 : Int32)) (x3 + (1 : Int32)) H locs ls hf hP hD hS (lv_sub hl [2, 3, 1, 0] rfl)
  unfold fX11_wordsWithLetter at hf
  refine lv_iconst (v := 0) hx hb dX11_wordsWithLetter_0 (by decide) ?_
  refine lv_istore_n (lv' := [(2, .int (0 : Int32)), (0, .ref a0), (1, .int p1)]) hx hb dX11_wordsWithLetter_1 rfl hl (by decide) rfl (fun ls hl => ?_)
  refine lv_iconst (v := 0) hx hb dX11_wordsWithLetter_2 (by decide) ?_
  refine lv_istore_n (lv' := [(3, .int (0 : Int32)), (2, .int (0 : Int32)), (0, .ref a0), (1, .int p1)]) hx hb dX11_wordsWithLetter_3 rfl hl (by decide) rfl (fun ls hl => ?_)
  exact k4 N (0 : Int32) (0 : Int32) H locs ls hf hP hD hS (lv_sub hl [2, 3, 1, 0] rfl)
def fX11_wordsOfLength_4 (N : Nat) (v0_now_dictionary_size : Int32) (g0_now_dictionary_rows : Nat → Int64) (p1 : Int32) : Nat → Int32 → Int32 → Option (Int32)
  | 0, _, _ => none
  | K + 1, x2, x3 =>
    Option.bind (fX7_size v0_now_dictionary_size) fun r1 =>
    if r1 ≤ x3 then
      some (x2)
    else
      Option.bind (fX7_at 40 v0_now_dictionary_size g0_now_dictionary_rows x3) fun r3 =>
      Option.bind (fX8_length N r3) fun r4 =>
      if r4 = p1 then
        (fX11_wordsOfLength_4 N v0_now_dictionary_size g0_now_dictionary_rows p1 K) (x2 + (1 : Int32)) (x3 + (1 : Int32))
      else
        (fX11_wordsOfLength_4 N v0_now_dictionary_size g0_now_dictionary_rows p1 K) x2 (x3 + (1 : Int32))
def fX11_wordsOfLength (N : Nat) (v0_now_dictionary_size : Int32) (g0_now_dictionary_rows : Nat → Int64) (p1 : Int32) : Option (Int32) :=
  fX11_wordsOfLength_4 N v0_now_dictionary_size g0_now_dictionary_rows p1 N (0 : Int32) (0 : Int32)
set_option maxHeartbeats 4000000 in
set_option maxRecDepth 100000 in
theorem mX11_wordsOfLength (l : Launch) (D : zG) (a0 : Nat) (a0_now : Nat) (a0_images : Nat) (a0_merges : Nat) (a0_cut : Nat) (a0_index : Nat) (a0_otherIndex : Nat) (a0_readWords : Nat) (a0_triedPattern : Nat) (a0_alike : Nat) (a0_now_tape : Nat) (a0_now_dictionary : Nat) (a0_now_coming : Nat) (a0_now_pattern : Nat) (a0_now_fault : Nat) (a0_now_dictionary_rows : Nat) (sz : Nat)  (v0_now_edits : Int32) (v0_now_dictionary_size : Int32) (g0_now_dictionary_rows : Nat → Int64) (p1 : Int32) (N : Nat) (res : Int32) (hf : fX11_wordsOfLength N v0_now_dictionary_size g0_now_dictionary_rows p1 = some res) : Met l yX11_wordsOfLength wsX11_wordsOfLength ({ frames := 2, cells := 0, slots := 0, locals := 44 } : Room) (va_Pc [.ref a0, .int p1] (zW D sz [(a0, .inr (8, [.ref a0_now, .ref a0_images, .ref a0_merges, .ref a0_cut, .ref a0_index, .ref a0_otherIndex, .ref a0_readWords, .ref a0_triedPattern, .ref a0_alike])), (a0_now, .inr (6, [.ref a0_now_tape, .ref a0_now_dictionary, .ref a0_now_coming, .ref a0_now_pattern, .ref a0_now_fault, .int v0_now_edits])), (a0_now_dictionary, .inr (5, [.ref a0_now_dictionary_rows, .int v0_now_dictionary_size])), (a0_now_dictionary_rows, .inl (D.2 2, 40, .inr (.inl g0_now_dictionary_rows)))])) (va_Qi (fun r (_ : Unit) => r = res) (fun _ => zB D (va_A [(a0, .inr (8, [.ref a0_now, .ref a0_images, .ref a0_merges, .ref a0_cut, .ref a0_index, .ref a0_otherIndex, .ref a0_readWords, .ref a0_triedPattern, .ref a0_alike])), (a0_now, .inr (6, [.ref a0_now_tape, .ref a0_now_dictionary, .ref a0_now_coming, .ref a0_now_pattern, .ref a0_now_fault, .int v0_now_edits])), (a0_now_dictionary, .inr (5, [.ref a0_now_dictionary_rows, .int v0_now_dictionary_size])), (a0_now_dictionary_rows, .inl (D.2 2, 40, .inr (.inl g0_now_dictionary_rows)))] sz) [(a0, .inr (8, [.ref a0_now, .ref a0_images, .ref a0_merges, .ref a0_cut, .ref a0_index, .ref a0_otherIndex, .ref a0_readWords, .ref a0_triedPattern, .ref a0_alike])), (a0_now, .inr (6, [.ref a0_now_tape, .ref a0_now_dictionary, .ref a0_now_coming, .ref a0_now_pattern, .ref a0_now_fault, .int v0_now_edits])), (a0_now_dictionary, .inr (5, [.ref a0_now_dictionary_rows, .int v0_now_dictionary_size])), (a0_now_dictionary_rows, .inl (D.2 2, 40, .inr (.inl g0_now_dictionary_rows)))]) (va_A [(a0, .inr (8, [.ref a0_now, .ref a0_images, .ref a0_merges, .ref a0_cut, .ref a0_index, .ref a0_otherIndex, .ref a0_readWords, .ref a0_triedPattern, .ref a0_alike])), (a0_now, .inr (6, [.ref a0_now_tape, .ref a0_now_dictionary, .ref a0_now_coming, .ref a0_now_pattern, .ref a0_now_fault, .int v0_now_edits])), (a0_now_dictionary, .inr (5, [.ref a0_now_dictionary_rows, .int v0_now_dictionary_size])), (a0_now_dictionary_rows, .inl (D.2 2, 40, .inr (.inl g0_now_dictionary_rows)))] sz)) 0 0 (va_A [(a0, .inr (8, [.ref a0_now, .ref a0_images, .ref a0_merges, .ref a0_cut, .ref a0_index, .ref a0_otherIndex, .ref a0_readWords, .ref a0_triedPattern, .ref a0_alike])), (a0_now, .inr (6, [.ref a0_now_tape, .ref a0_now_dictionary, .ref a0_now_coming, .ref a0_now_pattern, .ref a0_now_fault, .int v0_now_edits])), (a0_now_dictionary, .inr (5, [.ref a0_now_dictionary_rows, .int v0_now_dictionary_size])), (a0_now_dictionary_rows, .inl (D.2 2, 40, .inr (.inl g0_now_dictionary_rows)))] sz) := by
  refine Met.ofW (cc := cX11_wordsOfLength) (maxL := 4) (ret := (some .int)) (by decide) rfl ?_
  intro p e s m args below meth c s₁ B hml hv
  obtain ⟨rfl, hsz, hP, hK, hD0⟩ := hv
  have hx := B.exec
  have hb := B.bytes
  have hr := B.returns
  have hts := atoms_spec (ws := wsX11_wordsOfLength) B.pre
  have hown : s.vm.findClass RX11 = some m.cls := findClass_of_methodNamed B.named
  have hlocks := B.notSynchronized
  subst hsz
  have hD := hD0.self (sz := s.heap.size)
  generalize hAe : va_A [(a0, .inr (8, [.ref a0_now, .ref a0_images, .ref a0_merges, .ref a0_cut, .ref a0_index, .ref a0_otherIndex, .ref a0_readWords, .ref a0_triedPattern, .ref a0_alike])), (a0_now, .inr (6, [.ref a0_now_tape, .ref a0_now_dictionary, .ref a0_now_coming, .ref a0_now_pattern, .ref a0_now_fault, .int v0_now_edits])), (a0_now_dictionary, .inr (5, [.ref a0_now_dictionary_rows, .int v0_now_dictionary_size])), (a0_now_dictionary_rows, .inl (D.2 2, 40, .inr (.inl g0_now_dictionary_rows)))] s.heap.size = A at hD ⊢
  have hA : ∀ q : Nat, s.heap.size ≤ q → A q := fun q h => by rw [← hAe]; exact Or.inr h
  have l12 := zat hts 1 (w := .fieldLink RX11 12 "TurnedWords" "now" "LTurnedWords$State;") rfl
  have l112 := zat hts 2 (w := .fieldLink RX11 112 "TurnedWords$State" "dictionary" "LTurnedWords$Rising;") rfl
  have hwX11 : ∀ w ∈ u_ws RX11 TX11 9, w ∈ wsX11_wordsOfLength := fun w h => List.mem_cons_of_mem _ (List.mem_append_left _ (List.mem_append_left _ (List.mem_append_right _ h)))
  have hwX9 : ∀ w ∈ u_ws RX9 TX9 6, w ∈ wsX11_wordsOfLength := fun w h => List.mem_cons_of_mem _ (List.mem_append_left _ (List.mem_append_right _ h))
  have hl := lv_entry ([.ref a0, .int p1]) (n := 4) (Nat.le_of_ble_eq_true rfl)
  rw [lg_entry_eq]
  generalize (lg_sl ([.ref a0, .int p1]) ++ List.replicate (4 - (lg_sl ([.ref a0, .int p1])).length) Slot.unset).toArray = ls at hl ⊢
  have hl : lv_has ls 4 [(0, .ref a0), (1, .int p1)] := hl
  refine zStart (A := A) hP (fun Q0 H locs hQ hP hS => ?_)
  have k4 : ∀ K : Nat, ∀ (x2 : Int32) (x3 : Int32) (H : Heap) (locs : List Loc) (ls : Array Slot), fX11_wordsOfLength_4 N v0_now_dictionary_size g0_now_dictionary_rows p1 K x2 x3 = some res → va_P D.1 vwCl [(a0, .inr (8, [.ref a0_now, .ref a0_images, .ref a0_merges, .ref a0_cut, .ref a0_index, .ref a0_otherIndex, .ref a0_readWords, .ref a0_triedPattern, .ref a0_alike])), (a0_now, .inr (6, [.ref a0_now_tape, .ref a0_now_dictionary, .ref a0_now_coming, .ref a0_now_pattern, .ref a0_now_fault, .int v0_now_edits])), (a0_now_dictionary, .inr (5, [.ref a0_now_dictionary_rows, .int v0_now_dictionary_size])), (a0_now_dictionary_rows, .inl (D.2 2, 40, .inr (.inl g0_now_dictionary_rows)))] H → va_D A [(a0, .inr (8, [.ref a0_now, .ref a0_images, .ref a0_merges, .ref a0_cut, .ref a0_index, .ref a0_otherIndex, .ref a0_readWords, .ref a0_triedPattern, .ref a0_alike])), (a0_now, .inr (6, [.ref a0_now_tape, .ref a0_now_dictionary, .ref a0_now_coming, .ref a0_now_pattern, .ref a0_now_fault, .int v0_now_edits])), (a0_now_dictionary, .inr (5, [.ref a0_now_dictionary_rows, .int v0_now_dictionary_size])), (a0_now_dictionary_rows, .inl (D.2 2, 40, .inr (.inl g0_now_dictionary_rows)))] → va_S A s.heap H locs → lv_has ls 4 [(0, .ref a0), (1, .int p1), (2, .int x2), (3, .int x3)] → W p l e (headSpec wsX11_wordsOfLength ({ frames := 2, cells := 0, slots := 0, locals := 44 } : Room)).room s m ([.ref a0, .int p1] : List Value).toArray below meth c H locs 0 0 Q0 (F0 m 4 ls []) := by
    intro K
    induction K with
    | zero =>
      intro x2 x3 H locs ls hf
      rw [fX11_wordsOfLength_4] at hf
      cases hf
    | succ K ih =>
      intro x2 x3 H locs ls hf hP hD hS hl
      rw [fX11_wordsOfLength_4] at hf
      refine lv_iload_n hx hb dX11_wordsOfLength_4 rfl (lv_at hl 3 rfl) ?_
      refine lv_aload_n hx hb dX11_wordsOfLength_5 rfl (lv_at hl 0 rfl) ?_
      refine va_get (D := D.1) (ci := 8) (v := .ref a0_now) (C := RX11) (T := TX11) (N := 9) hx hb hts hwX11 hown hK.1 hP 0 rfl rfl 0 (by decide) l12 (fun _ h9 => h9) rfl dX11_wordsOfLength_6 ?_
      refine va_get (D := D.1) (ci := 6) (v := .ref a0_now_dictionary) (C := RX9) (T := TX9) (N := 6) hx hb hts hwX9 hown hK.1 hP 1 rfl rfl 1 (by decide) l112 (fun _ h9 => h9) rfl dX11_wordsOfLength_9 ?_
      obtain ⟨r1, hr1, hf⟩ := bd hf
      refine zVi (As := []) (rest := [.int x3]) (ci := 5) (q0 := 0) (wn := [(a0, .inr (8, [.ref a0_now, .ref a0_images, .ref a0_merges, .ref a0_cut, .ref a0_index, .ref a0_otherIndex, .ref a0_readWords, .ref a0_triedPattern, .ref a0_alike])), (a0_now, .inr (6, [.ref a0_now_tape, .ref a0_now_dictionary, .ref a0_now_coming, .ref a0_now_pattern, .ref a0_now_fault, .int v0_now_edits])), (a0_now_dictionary, .inr (5, [.ref a0_now_dictionary_rows, .int v0_now_dictionary_size])), (a0_now_dictionary_rows, .inl (D.2 2, 40, .inr (.inl g0_now_dictionary_rows)))]) ⟨hx, hb, hml, hown, hts⟩ (mX7_size l D a0_now_dictionary a0_now_dictionary_rows H.size v0_now_dictionary_size r1 hr1) (cwV 0 hts gX11_wordsOfLength_X7_size rfl rfl rfl (by decide +kernel) ⟨Nat.le_of_ble_eq_true rfl, Nat.le_of_ble_eq_true rfl⟩) hK hP hD hS hA [2] [0, 1, 3] [0, 1, 3, 2] rfl (by decide) rfl (by decide) (by decide) rfl (by decide) rfl rfl rfl hl.1 rfl (Nat.le_of_ble_eq_true rfl) dX11_wordsOfLength_12 ⟨Nat.zero_le _, Nat.zero_le _⟩ (fun H locs hP hD hS => ?_)
      refine lv_icmp_ge (tgt := 45) hx hb dX11_wordsOfLength_15 (by decide) (fun c_2 => ?_) (fun c_2 => ?_)
      · replace hf := ip c_2 hf
        refine lv_iload_n hx hb dX11_wordsOfLength_45 rfl (lv_at hl 2 rfl) ?_
        have he := Option.some.inj hf
        rw [hQ]
        exact W.iret (v := x2) hx hb hr (fun t ht hW => by rw [← he]; exact ⟨⟨x2, (), rfl, rfl, by rw [ht]; exact hP, hD⟩, hS.F ht⟩) hS.2.2 dX11_wordsOfLength_46
      · replace hf := im c_2 hf
        refine lv_aload_n hx hb dX11_wordsOfLength_18 rfl (lv_at hl 0 rfl) ?_
        refine va_get (D := D.1) (ci := 8) (v := .ref a0_now) (C := RX11) (T := TX11) (N := 9) hx hb hts hwX11 hown hK.1 hP 0 rfl rfl 0 (by decide) l12 (fun _ h9 => h9) rfl dX11_wordsOfLength_19 ?_
        refine va_get (D := D.1) (ci := 6) (v := .ref a0_now_dictionary) (C := RX9) (T := TX9) (N := 6) hx hb hts hwX9 hown hK.1 hP 1 rfl rfl 1 (by decide) l112 (fun _ h9 => h9) rfl dX11_wordsOfLength_22 ?_
        refine lv_iload_n hx hb dX11_wordsOfLength_25 rfl (lv_at hl 3 rfl) ?_
        obtain ⟨r3, hr3, hf⟩ := bd hf
        refine zVl (As := [.int x3]) (rest := []) (ci := 5) (q0 := 0) (wn := [(a0, .inr (8, [.ref a0_now, .ref a0_images, .ref a0_merges, .ref a0_cut, .ref a0_index, .ref a0_otherIndex, .ref a0_readWords, .ref a0_triedPattern, .ref a0_alike])), (a0_now, .inr (6, [.ref a0_now_tape, .ref a0_now_dictionary, .ref a0_now_coming, .ref a0_now_pattern, .ref a0_now_fault, .int v0_now_edits])), (a0_now_dictionary, .inr (5, [.ref a0_now_dictionary_rows, .int v0_now_dictionary_size])), (a0_now_dictionary_rows, .inl (D.2 2, 40, .inr (.inl g0_now_dictionary_rows)))]) ⟨hx, hb, hml, hown, hts⟩ (mX7_at l D a0_now_dictionary a0_now_dictionary_rows H.size 40 v0_now_dictionary_size g0_now_dictionary_rows x3 r3 hr3) (cwV 1 hts gX11_wordsOfLength_X7_at rfl rfl rfl (by decide +kernel) ⟨Nat.le_of_ble_eq_true rfl, Nat.le_of_ble_eq_true rfl⟩) hK hP hD hS hA [2, 3] [0, 1] [0, 1, 2, 3] rfl (by decide) rfl (by decide) (by decide) rfl (by decide) rfl rfl rfl hl.1 rfl (Nat.le_of_ble_eq_true rfl) dX11_wordsOfLength_26 ⟨Nat.zero_le _, Nat.zero_le _⟩ (fun H locs hP hD hS => ?_)
        obtain ⟨r4, hr4, hf⟩ := bd hf
        refine zSi (As := [.long r3]) (rest := []) (wn := [(a0, .inr (8, [.ref a0_now, .ref a0_images, .ref a0_merges, .ref a0_cut, .ref a0_index, .ref a0_otherIndex, .ref a0_readWords, .ref a0_triedPattern, .ref a0_alike])), (a0_now, .inr (6, [.ref a0_now_tape, .ref a0_now_dictionary, .ref a0_now_coming, .ref a0_now_pattern, .ref a0_now_fault, .int v0_now_edits])), (a0_now_dictionary, .inr (5, [.ref a0_now_dictionary_rows, .int v0_now_dictionary_size])), (a0_now_dictionary_rows, .inl (D.2 2, 40, .inr (.inl g0_now_dictionary_rows)))]) ⟨hx, hb, hml, hown, hts⟩ (mX8_length l D H.size r3 N r4 hr4) (va_cwS 1 hts gX11_wordsOfLength_X8_length rfl rfl rfl (by decide +kernel) ⟨Nat.le_of_ble_eq_true rfl, Nat.le_of_ble_eq_true rfl⟩) hK hP hD hS hA [] [0, 1, 2, 3] [0, 1, 2, 3] rfl (by decide) rfl (by decide) (by decide) rfl (by decide) rfl hl.1 rfl (Nat.le_of_ble_eq_true rfl) dX11_wordsOfLength_29 ⟨Nat.zero_le _, Nat.zero_le _⟩ (fun H locs hP hD hS => ?_)
        refine lv_iload_n hx hb dX11_wordsOfLength_32 rfl (lv_at hl 1 rfl) ?_
        refine lv_icmp_ne (tgt := 39) hx hb dX11_wordsOfLength_33 (by decide) (fun c_5 => ?_) (fun c_5 => ?_)
        · replace hf := im c_5 hf
          refine lv_iinc (v := (x3 + (1 : Int32))) (lv' := [(3, .int (x3 + (1 : Int32))), (0, .ref a0), (1, .int p1), (2, .int x2)]) hx hb dX11_wordsOfLength_39 hl (k := 3) rfl rfl (by decide) rfl (fun ls hl => ?_)
          refine lv_goto (tgt := 4) hx hb dX11_wordsOfLength_42 (by decide) ?_
          exact ih x2 (x3 + (1 : Int32)) H locs ls hf hP hD hS (lv_sub hl [1, 2, 3, 0] rfl)
        · replace hf := ip c_5 hf
          refine lv_iinc (v := (x2 + (1 : Int32))) (lv' := [(2, .int (x2 + (1 : Int32))), (0, .ref a0), (1, .int p1), (3, .int x3)]) hx hb dX11_wordsOfLength_36 hl (k := 2) rfl rfl (by decide) rfl (fun ls hl => ?_)
          refine lv_iinc (v := (x3 + (1 : Int32))) (lv' := [(3, .int (x3 + (1 : Int32))), (2, .int (x2 + (1 : Int32))), (0, .ref a0), (1, .int p1)]) hx hb dX11_wordsOfLength_39 hl (k := 3) rfl rfl (by decide) rfl (fun ls hl => ?_)
          refine lv_goto (tgt := 4) hx hb dX11_wordsOfLength_42 (by decide) ?_
          exact ih (x2 + (1 : Int32)) (x3 + (1 : Int32)) H locs ls hf hP hD hS (lv_sub hl [2, 3, 1, 0] rfl)
  unfold fX11_wordsOfLength at hf
  refine lv_iconst (v := 0) hx hb dX11_wordsOfLength_0 (by decide) ?_
  refine lv_istore_n (lv' := [(2, .int (0 : Int32)), (0, .ref a0), (1, .int p1)]) hx hb dX11_wordsOfLength_1 rfl hl (by decide) rfl (fun ls hl => ?_)
  refine lv_iconst (v := 0) hx hb dX11_wordsOfLength_2 (by decide) ?_
  refine lv_istore_n (lv' := [(3, .int (0 : Int32)), (2, .int (0 : Int32)), (0, .ref a0), (1, .int p1)]) hx hb dX11_wordsOfLength_3 rfl hl (by decide) rfl (fun ls hl => ?_)
  exact k4 N (0 : Int32) (0 : Int32) H locs ls hf hP hD hS (lv_sub hl [2, 3, 1, 0] rfl)
def fX11_tally (N : Nat) (v0_now_dictionary_size : Int32) (g0_now_dictionary_rows : Nat → Int64) (p1 : Int32) (p2 : Int32) : Option (Int32) :=
  if p2 = (0 : Int32) then
    if p1 < (1 : Int32) then
      some ((-1 : Int32))
    else
      if (7 : Int32) < p1 then
        some ((-1 : Int32))
      else
        Option.bind (fX11_wordsOfLength N v0_now_dictionary_size g0_now_dictionary_rows p1) fun r4 =>
        some (r4)
  else
    Option.bind (fX11_isLetter p1) fun r5 =>
    if r5 = (0 : Int32) then
      some ((-1 : Int32))
    else
      Option.bind (fX11_wordsWithLetter N v0_now_dictionary_size g0_now_dictionary_rows p1) fun r8 =>
      some (r8)
set_option maxHeartbeats 4000000 in
set_option maxRecDepth 100000 in
theorem mX11_tally (l : Launch) (D : zG) (a0 : Nat) (a0_now : Nat) (a0_images : Nat) (a0_merges : Nat) (a0_cut : Nat) (a0_index : Nat) (a0_otherIndex : Nat) (a0_readWords : Nat) (a0_triedPattern : Nat) (a0_alike : Nat) (a0_now_tape : Nat) (a0_now_dictionary : Nat) (a0_now_coming : Nat) (a0_now_pattern : Nat) (a0_now_fault : Nat) (a0_now_dictionary_rows : Nat) (sz : Nat)  (v0_now_edits : Int32) (v0_now_dictionary_size : Int32) (g0_now_dictionary_rows : Nat → Int64) (p1 : Int32) (p2 : Int32) (N : Nat) (res : Int32) (hf : fX11_tally N v0_now_dictionary_size g0_now_dictionary_rows p1 p2 = some res) : Met l yX11_tally wsX11_tally ({ frames := 3, cells := 0, slots := 0, locals := 70 } : Room) (va_Pc [.ref a0, .int p1, .int p2] (zW D sz [(a0, .inr (8, [.ref a0_now, .ref a0_images, .ref a0_merges, .ref a0_cut, .ref a0_index, .ref a0_otherIndex, .ref a0_readWords, .ref a0_triedPattern, .ref a0_alike])), (a0_now, .inr (6, [.ref a0_now_tape, .ref a0_now_dictionary, .ref a0_now_coming, .ref a0_now_pattern, .ref a0_now_fault, .int v0_now_edits])), (a0_now_dictionary, .inr (5, [.ref a0_now_dictionary_rows, .int v0_now_dictionary_size])), (a0_now_dictionary_rows, .inl (D.2 2, 40, .inr (.inl g0_now_dictionary_rows)))])) (va_Qi (fun r (_ : Unit) => r = res) (fun _ => zB D (va_A [(a0, .inr (8, [.ref a0_now, .ref a0_images, .ref a0_merges, .ref a0_cut, .ref a0_index, .ref a0_otherIndex, .ref a0_readWords, .ref a0_triedPattern, .ref a0_alike])), (a0_now, .inr (6, [.ref a0_now_tape, .ref a0_now_dictionary, .ref a0_now_coming, .ref a0_now_pattern, .ref a0_now_fault, .int v0_now_edits])), (a0_now_dictionary, .inr (5, [.ref a0_now_dictionary_rows, .int v0_now_dictionary_size])), (a0_now_dictionary_rows, .inl (D.2 2, 40, .inr (.inl g0_now_dictionary_rows)))] sz) [(a0, .inr (8, [.ref a0_now, .ref a0_images, .ref a0_merges, .ref a0_cut, .ref a0_index, .ref a0_otherIndex, .ref a0_readWords, .ref a0_triedPattern, .ref a0_alike])), (a0_now, .inr (6, [.ref a0_now_tape, .ref a0_now_dictionary, .ref a0_now_coming, .ref a0_now_pattern, .ref a0_now_fault, .int v0_now_edits])), (a0_now_dictionary, .inr (5, [.ref a0_now_dictionary_rows, .int v0_now_dictionary_size])), (a0_now_dictionary_rows, .inl (D.2 2, 40, .inr (.inl g0_now_dictionary_rows)))]) (va_A [(a0, .inr (8, [.ref a0_now, .ref a0_images, .ref a0_merges, .ref a0_cut, .ref a0_index, .ref a0_otherIndex, .ref a0_readWords, .ref a0_triedPattern, .ref a0_alike])), (a0_now, .inr (6, [.ref a0_now_tape, .ref a0_now_dictionary, .ref a0_now_coming, .ref a0_now_pattern, .ref a0_now_fault, .int v0_now_edits])), (a0_now_dictionary, .inr (5, [.ref a0_now_dictionary_rows, .int v0_now_dictionary_size])), (a0_now_dictionary_rows, .inl (D.2 2, 40, .inr (.inl g0_now_dictionary_rows)))] sz)) 0 0 (va_A [(a0, .inr (8, [.ref a0_now, .ref a0_images, .ref a0_merges, .ref a0_cut, .ref a0_index, .ref a0_otherIndex, .ref a0_readWords, .ref a0_triedPattern, .ref a0_alike])), (a0_now, .inr (6, [.ref a0_now_tape, .ref a0_now_dictionary, .ref a0_now_coming, .ref a0_now_pattern, .ref a0_now_fault, .int v0_now_edits])), (a0_now_dictionary, .inr (5, [.ref a0_now_dictionary_rows, .int v0_now_dictionary_size])), (a0_now_dictionary_rows, .inl (D.2 2, 40, .inr (.inl g0_now_dictionary_rows)))] sz) := by
  refine Met.ofW (cc := cX11_tally) (maxL := 3) (ret := (some .int)) (by decide) rfl ?_
  intro p e s m args below meth c s₁ B hml hv
  obtain ⟨rfl, hsz, hP, hK, hD0⟩ := hv
  have hx := B.exec
  have hb := B.bytes
  have hr := B.returns
  have hts := atoms_spec (ws := wsX11_tally) B.pre
  have hown : s.vm.findClass RX11 = some m.cls := findClass_of_methodNamed B.named
  have hlocks := B.notSynchronized
  subst hsz
  have hD := hD0.self (sz := s.heap.size)
  generalize hAe : va_A [(a0, .inr (8, [.ref a0_now, .ref a0_images, .ref a0_merges, .ref a0_cut, .ref a0_index, .ref a0_otherIndex, .ref a0_readWords, .ref a0_triedPattern, .ref a0_alike])), (a0_now, .inr (6, [.ref a0_now_tape, .ref a0_now_dictionary, .ref a0_now_coming, .ref a0_now_pattern, .ref a0_now_fault, .int v0_now_edits])), (a0_now_dictionary, .inr (5, [.ref a0_now_dictionary_rows, .int v0_now_dictionary_size])), (a0_now_dictionary_rows, .inl (D.2 2, 40, .inr (.inl g0_now_dictionary_rows)))] s.heap.size = A at hD ⊢
  have hA : ∀ q : Nat, s.heap.size ≤ q → A q := fun q h => by rw [← hAe]; exact Or.inr h
  have hl := lv_entry ([.ref a0, .int p1, .int p2]) (n := 3) (Nat.le_of_ble_eq_true rfl)
  rw [lg_entry_eq]
  generalize (lg_sl ([.ref a0, .int p1, .int p2]) ++ List.replicate (3 - (lg_sl ([.ref a0, .int p1, .int p2])).length) Slot.unset).toArray = ls at hl ⊢
  have hl : lv_has ls 3 [(0, .ref a0), (1, .int p1), (2, .int p2)] := hl
  refine zStart (A := A) hP (fun Q0 H locs hQ hP hS => ?_)
  unfold fX11_tally at hf
  refine lv_iload_n hx hb dX11_tally_0 rfl (lv_at hl 2 rfl) ?_
  refine lv_if_eq (tgt := 21) hx hb dX11_tally_1 (by decide) (fun c_1 => ?_) (fun c_1 => ?_)
  · replace hf := ip c_1 hf
    refine lv_iload_n hx hb dX11_tally_21 rfl (lv_at hl 1 rfl) ?_
    refine lv_iconst (v := 1) hx hb dX11_tally_22 (by decide) ?_
    refine lv_icmp_lt (tgt := 40) hx hb dX11_tally_23 (by decide) (fun c_2 => ?_) (fun c_2 => ?_)
    · replace hf := ip c_2 hf
      refine lv_iconst (v := -1) hx hb dX11_tally_40 (by decide) ?_
      have he := Option.some.inj hf
      rw [hQ]
      exact W.iret (v := (-1 : Int32)) hx hb hr (fun t ht hW => by rw [← he]; exact ⟨⟨(-1 : Int32), (), rfl, rfl, by rw [ht]; exact hP, hD⟩, hS.F ht⟩) hS.2.2 dX11_tally_41
    · replace hf := im c_2 hf
      refine lv_iload_n hx hb dX11_tally_26 rfl (lv_at hl 1 rfl) ?_
      refine lv_bipush (v := 7) hx hb dX11_tally_27 (by decide) ?_
      refine lv_icmp_gt (tgt := 40) hx hb dX11_tally_29 (by decide) (fun c_3 => ?_) (fun c_3 => ?_)
      · replace hf := ip c_3 hf
        refine lv_iconst (v := -1) hx hb dX11_tally_40 (by decide) ?_
        have he := Option.some.inj hf
        rw [hQ]
        exact W.iret (v := (-1 : Int32)) hx hb hr (fun t ht hW => by rw [← he]; exact ⟨⟨(-1 : Int32), (), rfl, rfl, by rw [ht]; exact hP, hD⟩, hS.F ht⟩) hS.2.2 dX11_tally_41
      · replace hf := im c_3 hf
        refine lv_aload_n hx hb dX11_tally_32 rfl (lv_at hl 0 rfl) ?_
        refine lv_iload_n hx hb dX11_tally_33 rfl (lv_at hl 1 rfl) ?_
        obtain ⟨r4, hr4, hf⟩ := bd hf
        refine zVi (As := [.int p1]) (rest := []) (ci := 8) (q0 := 0) (wn := [(a0, .inr (8, [.ref a0_now, .ref a0_images, .ref a0_merges, .ref a0_cut, .ref a0_index, .ref a0_otherIndex, .ref a0_readWords, .ref a0_triedPattern, .ref a0_alike])), (a0_now, .inr (6, [.ref a0_now_tape, .ref a0_now_dictionary, .ref a0_now_coming, .ref a0_now_pattern, .ref a0_now_fault, .int v0_now_edits])), (a0_now_dictionary, .inr (5, [.ref a0_now_dictionary_rows, .int v0_now_dictionary_size])), (a0_now_dictionary_rows, .inl (D.2 2, 40, .inr (.inl g0_now_dictionary_rows)))]) ⟨hx, hb, hml, hown, hts⟩ (mX11_wordsOfLength l D a0 a0_now a0_images a0_merges a0_cut a0_index a0_otherIndex a0_readWords a0_triedPattern a0_alike a0_now_tape a0_now_dictionary a0_now_coming a0_now_pattern a0_now_fault a0_now_dictionary_rows H.size v0_now_edits v0_now_dictionary_size g0_now_dictionary_rows p1 N r4 hr4) (cwV 1 hts gX11_tally_X11_wordsOfLength rfl rfl rfl (by decide +kernel) ⟨Nat.le_of_ble_eq_true rfl, Nat.le_of_ble_eq_true rfl⟩) hK hP hD hS hA [0, 1, 2, 3] [] [0, 1, 2, 3] rfl (by decide) rfl (by decide) (by decide) rfl (by decide) rfl rfl rfl hl.1 rfl (Nat.le_of_ble_eq_true rfl) dX11_tally_34 ⟨Nat.zero_le _, Nat.zero_le _⟩ (fun H locs hP hD hS => ?_)
        refine lv_goto (tgt := 41) hx hb dX11_tally_37 (by decide) ?_
        have he := Option.some.inj hf
        rw [hQ]
        exact W.iret (v := r4) hx hb hr (fun t ht hW => by rw [← he]; exact ⟨⟨r4, (), rfl, rfl, by rw [ht]; exact hP, hD⟩, hS.F ht⟩) hS.2.2 dX11_tally_41
  · replace hf := im c_1 hf
    refine lv_iload_n hx hb dX11_tally_4 rfl (lv_at hl 1 rfl) ?_
    obtain ⟨r5, hr5, hf⟩ := bd hf
    refine zSz (As := [.int p1]) (rest := []) (wn := [(a0, .inr (8, [.ref a0_now, .ref a0_images, .ref a0_merges, .ref a0_cut, .ref a0_index, .ref a0_otherIndex, .ref a0_readWords, .ref a0_triedPattern, .ref a0_alike])), (a0_now, .inr (6, [.ref a0_now_tape, .ref a0_now_dictionary, .ref a0_now_coming, .ref a0_now_pattern, .ref a0_now_fault, .int v0_now_edits])), (a0_now_dictionary, .inr (5, [.ref a0_now_dictionary_rows, .int v0_now_dictionary_size])), (a0_now_dictionary_rows, .inl (D.2 2, 40, .inr (.inl g0_now_dictionary_rows)))]) ⟨hx, hb, hml, hown, hts⟩ (mX11_isLetter l D H.size p1 r5 hr5) (va_cwS 1 hts gX11_tally_X11_isLetter rfl rfl rfl (by decide +kernel) ⟨Nat.le_of_ble_eq_true rfl, Nat.le_of_ble_eq_true rfl⟩) hK hP hD hS hA [] [0, 1, 2, 3] [0, 1, 2, 3] rfl (by decide) rfl (by decide) (by decide) rfl (by decide) rfl hl.1 rfl (Nat.le_of_ble_eq_true rfl) dX11_tally_5 ⟨Nat.zero_le _, Nat.zero_le _⟩ (fun H locs hb_6 hP hD hS => ?_)
    refine lv_if_eq (tgt := 19) hx hb dX11_tally_8 (by decide) (fun c_7 => ?_) (fun c_7 => ?_)
    · replace hf := ip c_7 hf
      refine lv_iconst (v := -1) hx hb dX11_tally_19 (by decide) ?_
      have he := Option.some.inj hf
      rw [hQ]
      exact W.iret (v := (-1 : Int32)) hx hb hr (fun t ht hW => by rw [← he]; exact ⟨⟨(-1 : Int32), (), rfl, rfl, by rw [ht]; exact hP, hD⟩, hS.F ht⟩) hS.2.2 dX11_tally_20
    · replace hf := im c_7 hf
      refine lv_aload_n hx hb dX11_tally_11 rfl (lv_at hl 0 rfl) ?_
      refine lv_iload_n hx hb dX11_tally_12 rfl (lv_at hl 1 rfl) ?_
      obtain ⟨r8, hr8, hf⟩ := bd hf
      refine zVi (As := [.int p1]) (rest := []) (ci := 8) (q0 := 0) (wn := [(a0, .inr (8, [.ref a0_now, .ref a0_images, .ref a0_merges, .ref a0_cut, .ref a0_index, .ref a0_otherIndex, .ref a0_readWords, .ref a0_triedPattern, .ref a0_alike])), (a0_now, .inr (6, [.ref a0_now_tape, .ref a0_now_dictionary, .ref a0_now_coming, .ref a0_now_pattern, .ref a0_now_fault, .int v0_now_edits])), (a0_now_dictionary, .inr (5, [.ref a0_now_dictionary_rows, .int v0_now_dictionary_size])), (a0_now_dictionary_rows, .inl (D.2 2, 40, .inr (.inl g0_now_dictionary_rows)))]) ⟨hx, hb, hml, hown, hts⟩ (mX11_wordsWithLetter l D a0 a0_now a0_images a0_merges a0_cut a0_index a0_otherIndex a0_readWords a0_triedPattern a0_alike a0_now_tape a0_now_dictionary a0_now_coming a0_now_pattern a0_now_fault a0_now_dictionary_rows H.size v0_now_edits v0_now_dictionary_size g0_now_dictionary_rows p1 N r8 hr8) (cwV 1 hts gX11_tally_X11_wordsWithLetter rfl rfl rfl (by decide +kernel) ⟨Nat.le_of_ble_eq_true rfl, Nat.le_of_ble_eq_true rfl⟩) hK hP hD hS hA [0, 1, 2, 3] [] [0, 1, 2, 3] rfl (by decide) rfl (by decide) (by decide) rfl (by decide) rfl rfl rfl hl.1 rfl (Nat.le_of_ble_eq_true rfl) dX11_tally_13 ⟨Nat.zero_le _, Nat.zero_le _⟩ (fun H locs hP hD hS => ?_)
      refine lv_goto (tgt := 20) hx hb dX11_tally_16 (by decide) ?_
      have he := Option.some.inj hf
      rw [hQ]
      exact W.iret (v := r8) hx hb hr (fun t ht hW => by rw [← he]; exact ⟨⟨r8, (), rfl, rfl, by rw [ht]; exact hP, hD⟩, hS.F ht⟩) hS.2.2 dX11_tally_20
def fX11_places (N : Nat) (v0_now_dictionary_size : Int32) (g0_now_dictionary_rows : Nat → Int64) (p1 : Int32) (p2 : Int32) : Option (Int32) :=
  Option.bind (fX7_hasNumber v0_now_dictionary_size p1) fun r1 =>
  if r1 = (0 : Int32) then
    some ((-1 : Int32))
  else
    Option.bind (fX11_isLetter p2) fun r4 =>
    if r4 = (0 : Int32) then
      some ((-1 : Int32))
    else
      Option.bind (fX7_at 40 v0_now_dictionary_size g0_now_dictionary_rows p1) fun r7 =>
      Option.bind (fX8_placesOf N r7 p2) fun r8 =>
      some (r8)
set_option maxHeartbeats 4000000 in
set_option maxRecDepth 100000 in
theorem mX11_places (l : Launch) (D : zG) (a0 : Nat) (a0_now : Nat) (a0_images : Nat) (a0_merges : Nat) (a0_cut : Nat) (a0_index : Nat) (a0_otherIndex : Nat) (a0_readWords : Nat) (a0_triedPattern : Nat) (a0_alike : Nat) (a0_now_tape : Nat) (a0_now_dictionary : Nat) (a0_now_coming : Nat) (a0_now_pattern : Nat) (a0_now_fault : Nat) (a0_now_dictionary_rows : Nat) (sz : Nat)  (v0_now_edits : Int32) (v0_now_dictionary_size : Int32) (g0_now_dictionary_rows : Nat → Int64) (p1 : Int32) (p2 : Int32) (N : Nat) (res : Int32) (hf : fX11_places N v0_now_dictionary_size g0_now_dictionary_rows p1 p2 = some res) : Met l yX11_places wsX11_places ({ frames := 2, cells := 0, slots := 0, locals := 47 } : Room) (va_Pc [.ref a0, .int p1, .int p2] (zW D sz [(a0, .inr (8, [.ref a0_now, .ref a0_images, .ref a0_merges, .ref a0_cut, .ref a0_index, .ref a0_otherIndex, .ref a0_readWords, .ref a0_triedPattern, .ref a0_alike])), (a0_now, .inr (6, [.ref a0_now_tape, .ref a0_now_dictionary, .ref a0_now_coming, .ref a0_now_pattern, .ref a0_now_fault, .int v0_now_edits])), (a0_now_dictionary, .inr (5, [.ref a0_now_dictionary_rows, .int v0_now_dictionary_size])), (a0_now_dictionary_rows, .inl (D.2 2, 40, .inr (.inl g0_now_dictionary_rows)))])) (va_Qi (fun r (_ : Unit) => r = res) (fun _ => zB D (va_A [(a0, .inr (8, [.ref a0_now, .ref a0_images, .ref a0_merges, .ref a0_cut, .ref a0_index, .ref a0_otherIndex, .ref a0_readWords, .ref a0_triedPattern, .ref a0_alike])), (a0_now, .inr (6, [.ref a0_now_tape, .ref a0_now_dictionary, .ref a0_now_coming, .ref a0_now_pattern, .ref a0_now_fault, .int v0_now_edits])), (a0_now_dictionary, .inr (5, [.ref a0_now_dictionary_rows, .int v0_now_dictionary_size])), (a0_now_dictionary_rows, .inl (D.2 2, 40, .inr (.inl g0_now_dictionary_rows)))] sz) [(a0, .inr (8, [.ref a0_now, .ref a0_images, .ref a0_merges, .ref a0_cut, .ref a0_index, .ref a0_otherIndex, .ref a0_readWords, .ref a0_triedPattern, .ref a0_alike])), (a0_now, .inr (6, [.ref a0_now_tape, .ref a0_now_dictionary, .ref a0_now_coming, .ref a0_now_pattern, .ref a0_now_fault, .int v0_now_edits])), (a0_now_dictionary, .inr (5, [.ref a0_now_dictionary_rows, .int v0_now_dictionary_size])), (a0_now_dictionary_rows, .inl (D.2 2, 40, .inr (.inl g0_now_dictionary_rows)))]) (va_A [(a0, .inr (8, [.ref a0_now, .ref a0_images, .ref a0_merges, .ref a0_cut, .ref a0_index, .ref a0_otherIndex, .ref a0_readWords, .ref a0_triedPattern, .ref a0_alike])), (a0_now, .inr (6, [.ref a0_now_tape, .ref a0_now_dictionary, .ref a0_now_coming, .ref a0_now_pattern, .ref a0_now_fault, .int v0_now_edits])), (a0_now_dictionary, .inr (5, [.ref a0_now_dictionary_rows, .int v0_now_dictionary_size])), (a0_now_dictionary_rows, .inl (D.2 2, 40, .inr (.inl g0_now_dictionary_rows)))] sz)) 0 0 (va_A [(a0, .inr (8, [.ref a0_now, .ref a0_images, .ref a0_merges, .ref a0_cut, .ref a0_index, .ref a0_otherIndex, .ref a0_readWords, .ref a0_triedPattern, .ref a0_alike])), (a0_now, .inr (6, [.ref a0_now_tape, .ref a0_now_dictionary, .ref a0_now_coming, .ref a0_now_pattern, .ref a0_now_fault, .int v0_now_edits])), (a0_now_dictionary, .inr (5, [.ref a0_now_dictionary_rows, .int v0_now_dictionary_size])), (a0_now_dictionary_rows, .inl (D.2 2, 40, .inr (.inl g0_now_dictionary_rows)))] sz) := by
  refine Met.ofW (cc := cX11_places) (maxL := 3) (ret := (some .int)) (by decide) rfl ?_
  intro p e s m args below meth c s₁ B hml hv
  obtain ⟨rfl, hsz, hP, hK, hD0⟩ := hv
  have hx := B.exec
  have hb := B.bytes
  have hr := B.returns
  have hts := atoms_spec (ws := wsX11_places) B.pre
  have hown : s.vm.findClass RX11 = some m.cls := findClass_of_methodNamed B.named
  have hlocks := B.notSynchronized
  subst hsz
  have hD := hD0.self (sz := s.heap.size)
  generalize hAe : va_A [(a0, .inr (8, [.ref a0_now, .ref a0_images, .ref a0_merges, .ref a0_cut, .ref a0_index, .ref a0_otherIndex, .ref a0_readWords, .ref a0_triedPattern, .ref a0_alike])), (a0_now, .inr (6, [.ref a0_now_tape, .ref a0_now_dictionary, .ref a0_now_coming, .ref a0_now_pattern, .ref a0_now_fault, .int v0_now_edits])), (a0_now_dictionary, .inr (5, [.ref a0_now_dictionary_rows, .int v0_now_dictionary_size])), (a0_now_dictionary_rows, .inl (D.2 2, 40, .inr (.inl g0_now_dictionary_rows)))] s.heap.size = A at hD ⊢
  have hA : ∀ q : Nat, s.heap.size ≤ q → A q := fun q h => by rw [← hAe]; exact Or.inr h
  have l12 := zat hts 1 (w := .fieldLink RX11 12 "TurnedWords" "now" "LTurnedWords$State;") rfl
  have l112 := zat hts 2 (w := .fieldLink RX11 112 "TurnedWords$State" "dictionary" "LTurnedWords$Rising;") rfl
  have hwX11 : ∀ w ∈ u_ws RX11 TX11 9, w ∈ wsX11_places := fun w h => List.mem_cons_of_mem _ (List.mem_append_left _ (List.mem_append_left _ (List.mem_append_right _ h)))
  have hwX9 : ∀ w ∈ u_ws RX9 TX9 6, w ∈ wsX11_places := fun w h => List.mem_cons_of_mem _ (List.mem_append_left _ (List.mem_append_right _ h))
  have hl := lv_entry ([.ref a0, .int p1, .int p2]) (n := 3) (Nat.le_of_ble_eq_true rfl)
  rw [lg_entry_eq]
  generalize (lg_sl ([.ref a0, .int p1, .int p2]) ++ List.replicate (3 - (lg_sl ([.ref a0, .int p1, .int p2])).length) Slot.unset).toArray = ls at hl ⊢
  have hl : lv_has ls 3 [(0, .ref a0), (1, .int p1), (2, .int p2)] := hl
  refine zStart (A := A) hP (fun Q0 H locs hQ hP hS => ?_)
  unfold fX11_places at hf
  refine lv_aload_n hx hb dX11_places_0 rfl (lv_at hl 0 rfl) ?_
  refine va_get (D := D.1) (ci := 8) (v := .ref a0_now) (C := RX11) (T := TX11) (N := 9) hx hb hts hwX11 hown hK.1 hP 0 rfl rfl 0 (by decide) l12 (fun _ h9 => h9) rfl dX11_places_1 ?_
  refine va_get (D := D.1) (ci := 6) (v := .ref a0_now_dictionary) (C := RX9) (T := TX9) (N := 6) hx hb hts hwX9 hown hK.1 hP 1 rfl rfl 1 (by decide) l112 (fun _ h9 => h9) rfl dX11_places_4 ?_
  refine lv_iload_n hx hb dX11_places_7 rfl (lv_at hl 1 rfl) ?_
  obtain ⟨r1, hr1, hf⟩ := bd hf
  refine zVz (As := [.int p1]) (rest := []) (ci := 5) (q0 := 0) (wn := [(a0, .inr (8, [.ref a0_now, .ref a0_images, .ref a0_merges, .ref a0_cut, .ref a0_index, .ref a0_otherIndex, .ref a0_readWords, .ref a0_triedPattern, .ref a0_alike])), (a0_now, .inr (6, [.ref a0_now_tape, .ref a0_now_dictionary, .ref a0_now_coming, .ref a0_now_pattern, .ref a0_now_fault, .int v0_now_edits])), (a0_now_dictionary, .inr (5, [.ref a0_now_dictionary_rows, .int v0_now_dictionary_size])), (a0_now_dictionary_rows, .inl (D.2 2, 40, .inr (.inl g0_now_dictionary_rows)))]) ⟨hx, hb, hml, hown, hts⟩ (mX7_hasNumber l D a0_now_dictionary a0_now_dictionary_rows H.size v0_now_dictionary_size p1 r1 hr1) (cwV 1 hts gX11_places_X7_hasNumber rfl rfl rfl (by decide +kernel) ⟨Nat.le_of_ble_eq_true rfl, Nat.le_of_ble_eq_true rfl⟩) hK hP hD hS hA [2] [0, 1, 3] [0, 1, 3, 2] rfl (by decide) rfl (by decide) (by decide) rfl (by decide) rfl rfl rfl hl.1 rfl (Nat.le_of_ble_eq_true rfl) dX11_places_8 ⟨Nat.zero_le _, Nat.zero_le _⟩ (fun H locs hb_2 hP hD hS => ?_)
  refine lv_if_eq (tgt := 21) hx hb dX11_places_11 (by decide) (fun c_3 => ?_) (fun c_3 => ?_)
  · replace hf := ip c_3 hf
    refine lv_iconst (v := -1) hx hb dX11_places_21 (by decide) ?_
    have he := Option.some.inj hf
    rw [hQ]
    exact W.iret (v := (-1 : Int32)) hx hb hr (fun t ht hW => by rw [← he]; exact ⟨⟨(-1 : Int32), (), rfl, rfl, by rw [ht]; exact hP, hD⟩, hS.F ht⟩) hS.2.2 dX11_places_22
  · replace hf := im c_3 hf
    refine lv_iload_n hx hb dX11_places_14 rfl (lv_at hl 2 rfl) ?_
    obtain ⟨r4, hr4, hf⟩ := bd hf
    refine zSz (As := [.int p2]) (rest := []) (wn := [(a0, .inr (8, [.ref a0_now, .ref a0_images, .ref a0_merges, .ref a0_cut, .ref a0_index, .ref a0_otherIndex, .ref a0_readWords, .ref a0_triedPattern, .ref a0_alike])), (a0_now, .inr (6, [.ref a0_now_tape, .ref a0_now_dictionary, .ref a0_now_coming, .ref a0_now_pattern, .ref a0_now_fault, .int v0_now_edits])), (a0_now_dictionary, .inr (5, [.ref a0_now_dictionary_rows, .int v0_now_dictionary_size])), (a0_now_dictionary_rows, .inl (D.2 2, 40, .inr (.inl g0_now_dictionary_rows)))]) ⟨hx, hb, hml, hown, hts⟩ (mX11_isLetter l D H.size p2 r4 hr4) (va_cwS 1 hts gX11_places_X11_isLetter rfl rfl rfl (by decide +kernel) ⟨Nat.le_of_ble_eq_true rfl, Nat.le_of_ble_eq_true rfl⟩) hK hP hD hS hA [] [0, 1, 2, 3] [0, 1, 2, 3] rfl (by decide) rfl (by decide) (by decide) rfl (by decide) rfl hl.1 rfl (Nat.le_of_ble_eq_true rfl) dX11_places_15 ⟨Nat.zero_le _, Nat.zero_le _⟩ (fun H locs hb_5 hP hD hS => ?_)
    refine lv_if_ne (tgt := 23) hx hb dX11_places_18 (by decide) (fun c_6 => ?_) (fun c_6 => ?_)
    · replace hf := im c_6 hf
      refine lv_aload_n hx hb dX11_places_23 rfl (lv_at hl 0 rfl) ?_
      refine va_get (D := D.1) (ci := 8) (v := .ref a0_now) (C := RX11) (T := TX11) (N := 9) hx hb hts hwX11 hown hK.1 hP 0 rfl rfl 0 (by decide) l12 (fun _ h9 => h9) rfl dX11_places_24 ?_
      refine va_get (D := D.1) (ci := 6) (v := .ref a0_now_dictionary) (C := RX9) (T := TX9) (N := 6) hx hb hts hwX9 hown hK.1 hP 1 rfl rfl 1 (by decide) l112 (fun _ h9 => h9) rfl dX11_places_27 ?_
      refine lv_iload_n hx hb dX11_places_30 rfl (lv_at hl 1 rfl) ?_
      obtain ⟨r7, hr7, hf⟩ := bd hf
      refine zVl (As := [.int p1]) (rest := []) (ci := 5) (q0 := 0) (wn := [(a0, .inr (8, [.ref a0_now, .ref a0_images, .ref a0_merges, .ref a0_cut, .ref a0_index, .ref a0_otherIndex, .ref a0_readWords, .ref a0_triedPattern, .ref a0_alike])), (a0_now, .inr (6, [.ref a0_now_tape, .ref a0_now_dictionary, .ref a0_now_coming, .ref a0_now_pattern, .ref a0_now_fault, .int v0_now_edits])), (a0_now_dictionary, .inr (5, [.ref a0_now_dictionary_rows, .int v0_now_dictionary_size])), (a0_now_dictionary_rows, .inl (D.2 2, 40, .inr (.inl g0_now_dictionary_rows)))]) ⟨hx, hb, hml, hown, hts⟩ (mX7_at l D a0_now_dictionary a0_now_dictionary_rows H.size 40 v0_now_dictionary_size g0_now_dictionary_rows p1 r7 hr7) (cwV 1 hts gX11_places_X7_at rfl rfl rfl (by decide +kernel) ⟨Nat.le_of_ble_eq_true rfl, Nat.le_of_ble_eq_true rfl⟩) hK hP hD hS hA [2, 3] [0, 1] [0, 1, 2, 3] rfl (by decide) rfl (by decide) (by decide) rfl (by decide) rfl rfl rfl hl.1 rfl (Nat.le_of_ble_eq_true rfl) dX11_places_31 ⟨Nat.zero_le _, Nat.zero_le _⟩ (fun H locs hP hD hS => ?_)
      refine lv_iload_n hx hb dX11_places_34 rfl (lv_at hl 2 rfl) ?_
      obtain ⟨r8, hr8, hf⟩ := bd hf
      refine zSi (As := [.long r7, .int p2]) (rest := []) (wn := [(a0, .inr (8, [.ref a0_now, .ref a0_images, .ref a0_merges, .ref a0_cut, .ref a0_index, .ref a0_otherIndex, .ref a0_readWords, .ref a0_triedPattern, .ref a0_alike])), (a0_now, .inr (6, [.ref a0_now_tape, .ref a0_now_dictionary, .ref a0_now_coming, .ref a0_now_pattern, .ref a0_now_fault, .int v0_now_edits])), (a0_now_dictionary, .inr (5, [.ref a0_now_dictionary_rows, .int v0_now_dictionary_size])), (a0_now_dictionary_rows, .inl (D.2 2, 40, .inr (.inl g0_now_dictionary_rows)))]) ⟨hx, hb, hml, hown, hts⟩ (mX8_placesOf l D H.size r7 p2 N r8 hr8) (va_cwS 2 hts gX11_places_X8_placesOf rfl rfl rfl (by decide +kernel) ⟨Nat.le_of_ble_eq_true rfl, Nat.le_of_ble_eq_true rfl⟩) hK hP hD hS hA [] [0, 1, 2, 3] [0, 1, 2, 3] rfl (by decide) rfl (by decide) (by decide) rfl (by decide) rfl hl.1 rfl (Nat.le_of_ble_eq_true rfl) dX11_places_35 ⟨Nat.zero_le _, Nat.zero_le _⟩ (fun H locs hP hD hS => ?_)
      have he := Option.some.inj hf
      rw [hQ]
      exact W.iret (v := r8) hx hb hr (fun t ht hW => by rw [← he]; exact ⟨⟨r8, (), rfl, rfl, by rw [ht]; exact hP, hD⟩, hS.F ht⟩) hS.2.2 dX11_places_38
    · replace hf := ip c_6 hf
      refine lv_iconst (v := -1) hx hb dX11_places_21 (by decide) ?_
      have he := Option.some.inj hf
      rw [hQ]
      exact W.iret (v := (-1 : Int32)) hx hb hr (fun t ht hW => by rw [← he]; exact ⟨⟨(-1 : Int32), (), rfl, rfl, by rw [ht]; exact hP, hD⟩, hS.F ht⟩) hS.2.2 dX11_places_22
def fX11_instead (N : Nat) (v0_now_dictionary_size : Int32) (g0_now_dictionary_rows : Nat → Int64) (v0_now_pattern_size : Int32) (g0_now_pattern_signs : Nat → Int32) (v0_triedPattern_size : Int32) (g0_triedPattern_signs : Nat → Int32) (p1 : Int32) (p2 : Int32) : Option (Int32 × Int32 × (Nat → Int32)) :=
  Option.bind (fX5_hasPlace v0_now_pattern_size p1) fun r1 =>
  if r1 = (0 : Int32) then
    some ((-1 : Int32), v0_triedPattern_size, g0_triedPattern_signs)
  else
    Option.bind (fX5_isSign p2) fun r4 =>
    if r4 = (0 : Int32) then
      some ((-1 : Int32), v0_triedPattern_size, g0_triedPattern_signs)
    else
      Option.bind (fX5_copy v0_triedPattern_size g0_triedPattern_signs v0_now_pattern_size g0_now_pattern_signs) fun r7 =>
      Option.bind (fX5_put r7.1 r7.2 p1 p2) fun r8 =>
      Option.bind (fX11_answersOf N 40 v0_now_dictionary_size g0_now_dictionary_rows r7.1 r8) fun r9 =>
      Option.bind (fJ13_bitCount_95d88 r9) fun r10 =>
      some (r10, r7.1, r8)
set_option maxHeartbeats 4000000 in
set_option maxRecDepth 100000 in
theorem mX11_instead (l : Launch) (D : zG) (a0 : Nat) (a0_now : Nat) (a0_images : Nat) (a0_merges : Nat) (a0_cut : Nat) (a0_index : Nat) (a0_otherIndex : Nat) (a0_readWords : Nat) (a0_triedPattern : Nat) (a0_alike : Nat) (a0_now_tape : Nat) (a0_now_dictionary : Nat) (a0_now_coming : Nat) (a0_now_pattern : Nat) (a0_now_fault : Nat) (a0_now_dictionary_rows : Nat) (a0_now_pattern_signs : Nat) (a0_triedPattern_signs : Nat) (sz : Nat)  (v0_now_edits : Int32) (v0_now_dictionary_size : Int32) (g0_now_dictionary_rows : Nat → Int64) (v0_now_pattern_size : Int32) (g0_now_pattern_signs : Nat → Int32) (v0_triedPattern_size : Int32) (g0_triedPattern_signs : Nat → Int32) (p1 : Int32) (p2 : Int32) (N : Nat) (res : Int32 × Int32 × (Nat → Int32)) (hf : fX11_instead N v0_now_dictionary_size g0_now_dictionary_rows v0_now_pattern_size g0_now_pattern_signs v0_triedPattern_size g0_triedPattern_signs p1 p2 = some res) : Met l yX11_instead wsX11_instead ({ frames := 5, cells := 0, slots := 0, locals := 119 } : Room) (va_Pc [.ref a0, .int p1, .int p2] (zW D sz [(a0, .inr (8, [.ref a0_now, .ref a0_images, .ref a0_merges, .ref a0_cut, .ref a0_index, .ref a0_otherIndex, .ref a0_readWords, .ref a0_triedPattern, .ref a0_alike])), (a0_now, .inr (6, [.ref a0_now_tape, .ref a0_now_dictionary, .ref a0_now_coming, .ref a0_now_pattern, .ref a0_now_fault, .int v0_now_edits])), (a0_now_dictionary, .inr (5, [.ref a0_now_dictionary_rows, .int v0_now_dictionary_size])), (a0_now_dictionary_rows, .inl (D.2 2, 40, .inr (.inl g0_now_dictionary_rows))), (a0_now_pattern, .inr (4, [.ref a0_now_pattern_signs, .int v0_now_pattern_size])), (a0_now_pattern_signs, .inl (D.2 1, 12, .inl g0_now_pattern_signs)), (a0_triedPattern, .inr (4, [.ref a0_triedPattern_signs, .int v0_triedPattern_size])), (a0_triedPattern_signs, .inl (D.2 1, 12, .inl g0_triedPattern_signs))])) (va_Qi (fun r (_ : Unit) => r = res.1) (fun _ => zB D (va_A [(a0, .inr (8, [.ref a0_now, .ref a0_images, .ref a0_merges, .ref a0_cut, .ref a0_index, .ref a0_otherIndex, .ref a0_readWords, .ref a0_triedPattern, .ref a0_alike])), (a0_now, .inr (6, [.ref a0_now_tape, .ref a0_now_dictionary, .ref a0_now_coming, .ref a0_now_pattern, .ref a0_now_fault, .int v0_now_edits])), (a0_now_dictionary, .inr (5, [.ref a0_now_dictionary_rows, .int v0_now_dictionary_size])), (a0_now_dictionary_rows, .inl (D.2 2, 40, .inr (.inl g0_now_dictionary_rows))), (a0_now_pattern, .inr (4, [.ref a0_now_pattern_signs, .int v0_now_pattern_size])), (a0_now_pattern_signs, .inl (D.2 1, 12, .inl g0_now_pattern_signs)), (a0_triedPattern, .inr (4, [.ref a0_triedPattern_signs, .int v0_triedPattern_size])), (a0_triedPattern_signs, .inl (D.2 1, 12, .inl g0_triedPattern_signs))] sz) [(a0, .inr (8, [.ref a0_now, .ref a0_images, .ref a0_merges, .ref a0_cut, .ref a0_index, .ref a0_otherIndex, .ref a0_readWords, .ref a0_triedPattern, .ref a0_alike])), (a0_now, .inr (6, [.ref a0_now_tape, .ref a0_now_dictionary, .ref a0_now_coming, .ref a0_now_pattern, .ref a0_now_fault, .int v0_now_edits])), (a0_now_dictionary, .inr (5, [.ref a0_now_dictionary_rows, .int v0_now_dictionary_size])), (a0_now_dictionary_rows, .inl (D.2 2, 40, .inr (.inl g0_now_dictionary_rows))), (a0_now_pattern, .inr (4, [.ref a0_now_pattern_signs, .int v0_now_pattern_size])), (a0_now_pattern_signs, .inl (D.2 1, 12, .inl g0_now_pattern_signs)), (a0_triedPattern, .inr (4, [.ref a0_triedPattern_signs, .int res.2.1])), (a0_triedPattern_signs, .inl (D.2 1, 12, .inl res.2.2))]) (va_A [(a0, .inr (8, [.ref a0_now, .ref a0_images, .ref a0_merges, .ref a0_cut, .ref a0_index, .ref a0_otherIndex, .ref a0_readWords, .ref a0_triedPattern, .ref a0_alike])), (a0_now, .inr (6, [.ref a0_now_tape, .ref a0_now_dictionary, .ref a0_now_coming, .ref a0_now_pattern, .ref a0_now_fault, .int v0_now_edits])), (a0_now_dictionary, .inr (5, [.ref a0_now_dictionary_rows, .int v0_now_dictionary_size])), (a0_now_dictionary_rows, .inl (D.2 2, 40, .inr (.inl g0_now_dictionary_rows))), (a0_now_pattern, .inr (4, [.ref a0_now_pattern_signs, .int v0_now_pattern_size])), (a0_now_pattern_signs, .inl (D.2 1, 12, .inl g0_now_pattern_signs)), (a0_triedPattern, .inr (4, [.ref a0_triedPattern_signs, .int v0_triedPattern_size])), (a0_triedPattern_signs, .inl (D.2 1, 12, .inl g0_triedPattern_signs))] sz)) 0 0 (va_A [(a0, .inr (8, [.ref a0_now, .ref a0_images, .ref a0_merges, .ref a0_cut, .ref a0_index, .ref a0_otherIndex, .ref a0_readWords, .ref a0_triedPattern, .ref a0_alike])), (a0_now, .inr (6, [.ref a0_now_tape, .ref a0_now_dictionary, .ref a0_now_coming, .ref a0_now_pattern, .ref a0_now_fault, .int v0_now_edits])), (a0_now_dictionary, .inr (5, [.ref a0_now_dictionary_rows, .int v0_now_dictionary_size])), (a0_now_dictionary_rows, .inl (D.2 2, 40, .inr (.inl g0_now_dictionary_rows))), (a0_now_pattern, .inr (4, [.ref a0_now_pattern_signs, .int v0_now_pattern_size])), (a0_now_pattern_signs, .inl (D.2 1, 12, .inl g0_now_pattern_signs)), (a0_triedPattern, .inr (4, [.ref a0_triedPattern_signs, .int v0_triedPattern_size])), (a0_triedPattern_signs, .inl (D.2 1, 12, .inl g0_triedPattern_signs))] sz) := by
  refine Met.ofW (cc := cX11_instead) (maxL := 3) (ret := (some .int)) (by decide) rfl ?_
  intro p e s m args below meth c s₁ B hml hv
  obtain ⟨rfl, hsz, hP, hK, hD0⟩ := hv
  have hx := B.exec
  have hb := B.bytes
  have hr := B.returns
  have hts := atoms_spec (ws := wsX11_instead) B.pre
  have hown : s.vm.findClass RX11 = some m.cls := findClass_of_methodNamed B.named
  have hlocks := B.notSynchronized
  subst hsz
  have hD := hD0.self (sz := s.heap.size)
  generalize hAe : va_A [(a0, .inr (8, [.ref a0_now, .ref a0_images, .ref a0_merges, .ref a0_cut, .ref a0_index, .ref a0_otherIndex, .ref a0_readWords, .ref a0_triedPattern, .ref a0_alike])), (a0_now, .inr (6, [.ref a0_now_tape, .ref a0_now_dictionary, .ref a0_now_coming, .ref a0_now_pattern, .ref a0_now_fault, .int v0_now_edits])), (a0_now_dictionary, .inr (5, [.ref a0_now_dictionary_rows, .int v0_now_dictionary_size])), (a0_now_dictionary_rows, .inl (D.2 2, 40, .inr (.inl g0_now_dictionary_rows))), (a0_now_pattern, .inr (4, [.ref a0_now_pattern_signs, .int v0_now_pattern_size])), (a0_now_pattern_signs, .inl (D.2 1, 12, .inl g0_now_pattern_signs)), (a0_triedPattern, .inr (4, [.ref a0_triedPattern_signs, .int v0_triedPattern_size])), (a0_triedPattern_signs, .inl (D.2 1, 12, .inl g0_triedPattern_signs))] s.heap.size = A at hD ⊢
  have hA : ∀ q : Nat, s.heap.size ≤ q → A q := fun q h => by rw [← hAe]; exact Or.inr h
  have l12 := zat hts 1 (w := .fieldLink RX11 12 "TurnedWords" "now" "LTurnedWords$State;") rfl
  have l34 := zat hts 2 (w := .fieldLink RX11 34 "TurnedWords$State" "pattern" "LTurnedWords$Pattern;") rfl
  have l64 := zat hts 3 (w := .fieldLink RX11 64 "TurnedWords" "triedPattern" "LTurnedWords$Pattern;") rfl
  have l112 := zat hts 4 (w := .fieldLink RX11 112 "TurnedWords$State" "dictionary" "LTurnedWords$Rising;") rfl
  have hwX11 : ∀ w ∈ u_ws RX11 TX11 9, w ∈ wsX11_instead := fun w h => List.mem_cons_of_mem _ (List.mem_append_left _ (List.mem_append_left _ (List.mem_append_left _ (List.mem_append_right _ h))))
  have hwX9 : ∀ w ∈ u_ws RX9 TX9 6, w ∈ wsX11_instead := fun w h => List.mem_cons_of_mem _ (List.mem_append_left _ (List.mem_append_left _ (List.mem_append_right _ h)))
  have hl := lv_entry ([.ref a0, .int p1, .int p2]) (n := 3) (Nat.le_of_ble_eq_true rfl)
  rw [lg_entry_eq]
  generalize (lg_sl ([.ref a0, .int p1, .int p2]) ++ List.replicate (3 - (lg_sl ([.ref a0, .int p1, .int p2])).length) Slot.unset).toArray = ls at hl ⊢
  have hl : lv_has ls 3 [(0, .ref a0), (1, .int p1), (2, .int p2)] := hl
  refine zStart (A := A) hP (fun Q0 H locs hQ hP hS => ?_)
  unfold fX11_instead at hf
  refine lv_aload_n hx hb dX11_instead_0 rfl (lv_at hl 0 rfl) ?_
  refine va_get (D := D.1) (ci := 8) (v := .ref a0_now) (C := RX11) (T := TX11) (N := 9) hx hb hts hwX11 hown hK.1 hP 0 rfl rfl 0 (by decide) l12 (fun _ h9 => h9) rfl dX11_instead_1 ?_
  refine va_get (D := D.1) (ci := 6) (v := .ref a0_now_pattern) (C := RX9) (T := TX9) (N := 6) hx hb hts hwX9 hown hK.1 hP 1 rfl rfl 3 (by decide) l34 (fun _ h9 => h9) rfl dX11_instead_4 ?_
  refine lv_iload_n hx hb dX11_instead_7 rfl (lv_at hl 1 rfl) ?_
  obtain ⟨r1, hr1, hf⟩ := bd hf
  refine zVz (As := [.int p1]) (rest := []) (ci := 4) (q0 := 0) (wn := [(a0, .inr (8, [.ref a0_now, .ref a0_images, .ref a0_merges, .ref a0_cut, .ref a0_index, .ref a0_otherIndex, .ref a0_readWords, .ref a0_triedPattern, .ref a0_alike])), (a0_now, .inr (6, [.ref a0_now_tape, .ref a0_now_dictionary, .ref a0_now_coming, .ref a0_now_pattern, .ref a0_now_fault, .int v0_now_edits])), (a0_now_dictionary, .inr (5, [.ref a0_now_dictionary_rows, .int v0_now_dictionary_size])), (a0_now_dictionary_rows, .inl (D.2 2, 40, .inr (.inl g0_now_dictionary_rows))), (a0_now_pattern, .inr (4, [.ref a0_now_pattern_signs, .int v0_now_pattern_size])), (a0_now_pattern_signs, .inl (D.2 1, 12, .inl g0_now_pattern_signs)), (a0_triedPattern, .inr (4, [.ref a0_triedPattern_signs, .int v0_triedPattern_size])), (a0_triedPattern_signs, .inl (D.2 1, 12, .inl g0_triedPattern_signs))]) ⟨hx, hb, hml, hown, hts⟩ (mX5_hasPlace l D a0_now_pattern a0_now_pattern_signs H.size v0_now_pattern_size p1 r1 hr1) (cwV 1 hts gX11_instead_X5_hasPlace rfl rfl rfl (by decide +kernel) ⟨Nat.le_of_ble_eq_true rfl, Nat.le_of_ble_eq_true rfl⟩) hK hP hD hS hA [4] [0, 1, 2, 3, 5, 6, 7] [0, 1, 2, 3, 7, 4, 5, 6] rfl (by decide) rfl (by decide) (by decide) rfl (by decide) rfl rfl rfl hl.1 rfl (Nat.le_of_ble_eq_true rfl) dX11_instead_8 ⟨Nat.zero_le _, Nat.zero_le _⟩ (fun H locs hb_2 hP hD hS => ?_)
  refine lv_if_eq (tgt := 21) hx hb dX11_instead_11 (by decide) (fun c_3 => ?_) (fun c_3 => ?_)
  · replace hf := ip c_3 hf
    refine lv_iconst (v := -1) hx hb dX11_instead_21 (by decide) ?_
    have he := Option.some.inj hf
    rw [hQ]
    exact W.iret (v := (-1 : Int32)) hx hb hr (fun t ht hW => by rw [← he]; exact ⟨⟨(-1 : Int32), (), rfl, rfl, by rw [ht]; exact hP, hD⟩, hS.F ht⟩) hS.2.2 dX11_instead_22
  · replace hf := im c_3 hf
    refine lv_iload_n hx hb dX11_instead_14 rfl (lv_at hl 2 rfl) ?_
    obtain ⟨r4, hr4, hf⟩ := bd hf
    refine zSz (As := [.int p2]) (rest := []) (wn := [(a0, .inr (8, [.ref a0_now, .ref a0_images, .ref a0_merges, .ref a0_cut, .ref a0_index, .ref a0_otherIndex, .ref a0_readWords, .ref a0_triedPattern, .ref a0_alike])), (a0_now, .inr (6, [.ref a0_now_tape, .ref a0_now_dictionary, .ref a0_now_coming, .ref a0_now_pattern, .ref a0_now_fault, .int v0_now_edits])), (a0_now_dictionary, .inr (5, [.ref a0_now_dictionary_rows, .int v0_now_dictionary_size])), (a0_now_dictionary_rows, .inl (D.2 2, 40, .inr (.inl g0_now_dictionary_rows))), (a0_now_pattern, .inr (4, [.ref a0_now_pattern_signs, .int v0_now_pattern_size])), (a0_now_pattern_signs, .inl (D.2 1, 12, .inl g0_now_pattern_signs)), (a0_triedPattern, .inr (4, [.ref a0_triedPattern_signs, .int v0_triedPattern_size])), (a0_triedPattern_signs, .inl (D.2 1, 12, .inl g0_triedPattern_signs))]) ⟨hx, hb, hml, hown, hts⟩ (mX5_isSign l D H.size p2 r4 hr4) (va_cwS 1 hts gX11_instead_X5_isSign rfl rfl rfl (by decide +kernel) ⟨Nat.le_of_ble_eq_true rfl, Nat.le_of_ble_eq_true rfl⟩) hK hP hD hS hA [] [0, 1, 2, 3, 4, 5, 6, 7] [0, 1, 2, 3, 4, 5, 6, 7] rfl (by decide) rfl (by decide) (by decide) rfl (by decide) rfl hl.1 rfl (Nat.le_of_ble_eq_true rfl) dX11_instead_15 ⟨Nat.zero_le _, Nat.zero_le _⟩ (fun H locs hb_5 hP hD hS => ?_)
    refine lv_if_ne (tgt := 23) hx hb dX11_instead_18 (by decide) (fun c_6 => ?_) (fun c_6 => ?_)
    · replace hf := im c_6 hf
      refine lv_aload_n hx hb dX11_instead_23 rfl (lv_at hl 0 rfl) ?_
      refine va_get (D := D.1) (ci := 8) (v := .ref a0_triedPattern) (C := RX11) (T := TX11) (N := 9) hx hb hts hwX11 hown hK.1 hP 0 rfl rfl 7 (by decide) l64 (fun _ h9 => h9) rfl dX11_instead_24 ?_
      refine lv_aload_n hx hb dX11_instead_27 rfl (lv_at hl 0 rfl) ?_
      refine va_get (D := D.1) (ci := 8) (v := .ref a0_now) (C := RX11) (T := TX11) (N := 9) hx hb hts hwX11 hown hK.1 hP 0 rfl rfl 0 (by decide) l12 (fun _ h9 => h9) rfl dX11_instead_28 ?_
      refine va_get (D := D.1) (ci := 6) (v := .ref a0_now_pattern) (C := RX9) (T := TX9) (N := 6) hx hb hts hwX9 hown hK.1 hP 1 rfl rfl 3 (by decide) l34 (fun _ h9 => h9) rfl dX11_instead_31 ?_
      obtain ⟨r7, hr7, hf⟩ := bd hf
      refine zVv (As := [.ref a0_now_pattern]) (rest := []) (ci := 4) (q0 := 0) (wn := [(a0, .inr (8, [.ref a0_now, .ref a0_images, .ref a0_merges, .ref a0_cut, .ref a0_index, .ref a0_otherIndex, .ref a0_readWords, .ref a0_triedPattern, .ref a0_alike])), (a0_now, .inr (6, [.ref a0_now_tape, .ref a0_now_dictionary, .ref a0_now_coming, .ref a0_now_pattern, .ref a0_now_fault, .int v0_now_edits])), (a0_now_dictionary, .inr (5, [.ref a0_now_dictionary_rows, .int v0_now_dictionary_size])), (a0_now_dictionary_rows, .inl (D.2 2, 40, .inr (.inl g0_now_dictionary_rows))), (a0_now_pattern, .inr (4, [.ref a0_now_pattern_signs, .int v0_now_pattern_size])), (a0_now_pattern_signs, .inl (D.2 1, 12, .inl g0_now_pattern_signs)), (a0_triedPattern, .inr (4, [.ref a0_triedPattern_signs, .int r7.1])), (a0_triedPattern_signs, .inl (D.2 1, 12, .inl r7.2))]) ⟨hx, hb, hml, hown, hts⟩ (mX5_copy l D a0_triedPattern a0_triedPattern_signs a0_now_pattern a0_now_pattern_signs H.size v0_triedPattern_size g0_triedPattern_signs v0_now_pattern_size g0_now_pattern_signs r7 hr7) (cwV 1 hts gX11_instead_X5_copy rfl rfl rfl (by decide +kernel) ⟨Nat.le_of_ble_eq_true rfl, Nat.le_of_ble_eq_true rfl⟩) hK hP hD hS hA [6, 7, 4, 5] [0, 1, 2, 3] [0, 1, 2, 3, 6, 7, 4, 5] rfl (by decide) rfl (by decide) (by decide) rfl (by decide) rfl rfl rfl hl.1 rfl (Nat.le_of_ble_eq_true rfl) dX11_instead_34 ⟨Nat.zero_le _, Nat.zero_le _⟩ (fun H locs hP hD hS => ?_)
      refine lv_aload_n hx hb dX11_instead_37 rfl (lv_at hl 0 rfl) ?_
      refine va_get (D := D.1) (ci := 8) (v := .ref a0_triedPattern) (C := RX11) (T := TX11) (N := 9) hx hb hts hwX11 hown hK.1 hP 0 rfl rfl 7 (by decide) l64 (fun _ h9 => h9) rfl dX11_instead_38 ?_
      refine lv_iload_n hx hb dX11_instead_41 rfl (lv_at hl 1 rfl) ?_
      refine lv_iload_n hx hb dX11_instead_42 rfl (lv_at hl 2 rfl) ?_
      obtain ⟨r8, hr8, hf⟩ := bd hf
      refine zVv (As := [.int p1, .int p2]) (rest := []) (ci := 4) (q0 := 0) (wn := [(a0, .inr (8, [.ref a0_now, .ref a0_images, .ref a0_merges, .ref a0_cut, .ref a0_index, .ref a0_otherIndex, .ref a0_readWords, .ref a0_triedPattern, .ref a0_alike])), (a0_now, .inr (6, [.ref a0_now_tape, .ref a0_now_dictionary, .ref a0_now_coming, .ref a0_now_pattern, .ref a0_now_fault, .int v0_now_edits])), (a0_now_dictionary, .inr (5, [.ref a0_now_dictionary_rows, .int v0_now_dictionary_size])), (a0_now_dictionary_rows, .inl (D.2 2, 40, .inr (.inl g0_now_dictionary_rows))), (a0_now_pattern, .inr (4, [.ref a0_now_pattern_signs, .int v0_now_pattern_size])), (a0_now_pattern_signs, .inl (D.2 1, 12, .inl g0_now_pattern_signs)), (a0_triedPattern, .inr (4, [.ref a0_triedPattern_signs, .int r7.1])), (a0_triedPattern_signs, .inl (D.2 1, 12, .inl r8))]) ⟨hx, hb, hml, hown, hts⟩ (mX5_put l D a0_triedPattern a0_triedPattern_signs H.size r7.1 r7.2 p1 p2 r8 hr8) (cwV 2 hts gX11_instead_X5_put rfl rfl rfl (by decide +kernel) ⟨Nat.le_of_ble_eq_true rfl, Nat.le_of_ble_eq_true rfl⟩) hK hP hD hS hA [6, 7] [0, 1, 2, 3, 4, 5] [0, 1, 2, 3, 4, 5, 6, 7] rfl (by decide) rfl (by decide) (by decide) rfl (by decide) rfl rfl rfl hl.1 rfl (Nat.le_of_ble_eq_true rfl) dX11_instead_43 ⟨Nat.zero_le _, Nat.zero_le _⟩ (fun H locs hP hD hS => ?_)
      refine lv_aload_n hx hb dX11_instead_46 rfl (lv_at hl 0 rfl) ?_
      refine va_get (D := D.1) (ci := 8) (v := .ref a0_now) (C := RX11) (T := TX11) (N := 9) hx hb hts hwX11 hown hK.1 hP 0 rfl rfl 0 (by decide) l12 (fun _ h9 => h9) rfl dX11_instead_47 ?_
      refine va_get (D := D.1) (ci := 6) (v := .ref a0_now_dictionary) (C := RX9) (T := TX9) (N := 6) hx hb hts hwX9 hown hK.1 hP 1 rfl rfl 1 (by decide) l112 (fun _ h9 => h9) rfl dX11_instead_50 ?_
      refine lv_aload_n hx hb dX11_instead_53 rfl (lv_at hl 0 rfl) ?_
      refine va_get (D := D.1) (ci := 8) (v := .ref a0_triedPattern) (C := RX11) (T := TX11) (N := 9) hx hb hts hwX11 hown hK.1 hP 0 rfl rfl 7 (by decide) l64 (fun _ h9 => h9) rfl dX11_instead_54 ?_
      obtain ⟨r9, hr9, hf⟩ := bd hf
      refine zSl (As := [.ref a0_now_dictionary, .ref a0_triedPattern]) (rest := []) (wn := [(a0, .inr (8, [.ref a0_now, .ref a0_images, .ref a0_merges, .ref a0_cut, .ref a0_index, .ref a0_otherIndex, .ref a0_readWords, .ref a0_triedPattern, .ref a0_alike])), (a0_now, .inr (6, [.ref a0_now_tape, .ref a0_now_dictionary, .ref a0_now_coming, .ref a0_now_pattern, .ref a0_now_fault, .int v0_now_edits])), (a0_now_dictionary, .inr (5, [.ref a0_now_dictionary_rows, .int v0_now_dictionary_size])), (a0_now_dictionary_rows, .inl (D.2 2, 40, .inr (.inl g0_now_dictionary_rows))), (a0_now_pattern, .inr (4, [.ref a0_now_pattern_signs, .int v0_now_pattern_size])), (a0_now_pattern_signs, .inl (D.2 1, 12, .inl g0_now_pattern_signs)), (a0_triedPattern, .inr (4, [.ref a0_triedPattern_signs, .int r7.1])), (a0_triedPattern_signs, .inl (D.2 1, 12, .inl r8))]) ⟨hx, hb, hml, hown, hts⟩ (mX11_answersOf l D a0_now_dictionary a0_now_dictionary_rows a0_triedPattern a0_triedPattern_signs H.size 40 v0_now_dictionary_size g0_now_dictionary_rows r7.1 r8 N r9 hr9) (va_cwS 2 hts gX11_instead_X11_answersOf rfl rfl rfl (by decide +kernel) ⟨Nat.le_of_ble_eq_true rfl, Nat.le_of_ble_eq_true rfl⟩) hK hP hD hS hA [2, 3, 6, 7] [0, 1, 4, 5] [0, 1, 4, 5, 2, 3, 6, 7] rfl (by decide) rfl (by decide) (by decide) rfl (by decide) rfl hl.1 rfl (Nat.le_of_ble_eq_true rfl) dX11_instead_57 ⟨Nat.zero_le _, Nat.zero_le _⟩ (fun H locs hP hD hS => ?_)
      obtain ⟨r10, hr10, hf⟩ := bd hf
      refine zSi (As := [.long r9]) (rest := []) (wn := [(a0, .inr (8, [.ref a0_now, .ref a0_images, .ref a0_merges, .ref a0_cut, .ref a0_index, .ref a0_otherIndex, .ref a0_readWords, .ref a0_triedPattern, .ref a0_alike])), (a0_now, .inr (6, [.ref a0_now_tape, .ref a0_now_dictionary, .ref a0_now_coming, .ref a0_now_pattern, .ref a0_now_fault, .int v0_now_edits])), (a0_now_dictionary, .inr (5, [.ref a0_now_dictionary_rows, .int v0_now_dictionary_size])), (a0_now_dictionary_rows, .inl (D.2 2, 40, .inr (.inl g0_now_dictionary_rows))), (a0_now_pattern, .inr (4, [.ref a0_now_pattern_signs, .int v0_now_pattern_size])), (a0_now_pattern_signs, .inl (D.2 1, 12, .inl g0_now_pattern_signs)), (a0_triedPattern, .inr (4, [.ref a0_triedPattern_signs, .int r7.1])), (a0_triedPattern_signs, .inl (D.2 1, 12, .inl r8))]) ⟨hx, hb, hml, hown, hts⟩ (mJ13_bitCount_95d88 l D H.size r9 r10 hr10) (va_cwS 1 hts gX11_instead_J13_bitCount_95d88 rfl rfl rfl (by decide +kernel) ⟨Nat.le_of_ble_eq_true rfl, Nat.le_of_ble_eq_true rfl⟩) hK hP hD hS hA [] [0, 1, 2, 3, 4, 5, 6, 7] [0, 1, 2, 3, 4, 5, 6, 7] rfl (by decide) rfl (by decide) (by decide) rfl (by decide) rfl hl.1 rfl (Nat.le_of_ble_eq_true rfl) dX11_instead_60 ⟨Nat.zero_le _, Nat.zero_le _⟩ (fun H locs hP hD hS => ?_)
      have he := Option.some.inj hf
      rw [hQ]
      exact W.iret (v := r10) hx hb hr (fun t ht hW => by rw [← he]; exact ⟨⟨r10, (), rfl, rfl, by rw [ht]; exact hP, hD⟩, hS.F ht⟩) hS.2.2 dX11_instead_63
    · replace hf := ip c_6 hf
      refine lv_iconst (v := -1) hx hb dX11_instead_21 (by decide) ?_
      have he := Option.some.inj hf
      rw [hQ]
      exact W.iret (v := (-1 : Int32)) hx hb hr (fun t ht hW => by rw [← he]; exact ⟨⟨(-1 : Int32), (), rfl, rfl, by rw [ht]; exact hP, hD⟩, hS.F ht⟩) hS.2.2 dX11_instead_22
def fX11_image_0 (v0_now_edits : Int32) (v0_now_tape_size : Int32) (g0_now_tape_bytes : Nat → Int32) (v0_now_dictionary_size : Int32) (g0_now_dictionary_rows : Nat → Int64) (v0_now_coming_size : Int32) (g0_now_coming_rows : Nat → Int64) (v0_now_pattern_size : Int32) (g0_now_pattern_signs : Nat → Int32) (v0_now_fault_kind : Int32) (v0_now_fault_place : Int32) (v0_images_0_edits : Int32) (v0_images_0_tape_size : Int32) (g0_images_0_tape_bytes : Nat → Int32) (v0_images_0_dictionary_size : Int32) (g0_images_0_dictionary_rows : Nat → Int64) (v0_images_0_coming_size : Int32) (g0_images_0_coming_rows : Nat → Int64) (v0_images_0_pattern_size : Int32) (g0_images_0_pattern_signs : Nat → Int32) (v0_images_0_fault_kind : Int32) (v0_images_0_fault_place : Int32) : Option (Int32 × Int32 × Int32 × (Nat → Int32) × Int32 × (Nat → Int64) × Int32 × (Nat → Int64) × Int32 × (Nat → Int32) × Int32 × Int32) :=
  Option.bind (fX9_copy v0_images_0_edits v0_images_0_tape_size g0_images_0_tape_bytes v0_images_0_dictionary_size g0_images_0_dictionary_rows v0_images_0_coming_size g0_images_0_coming_rows v0_images_0_pattern_size g0_images_0_pattern_signs v0_images_0_fault_kind v0_images_0_fault_place v0_now_edits v0_now_tape_size g0_now_tape_bytes v0_now_dictionary_size g0_now_dictionary_rows v0_now_coming_size g0_now_coming_rows v0_now_pattern_size g0_now_pattern_signs v0_now_fault_kind v0_now_fault_place) fun r3 =>
  some ((1 : Int32), r3.1, r3.2.1, r3.2.2.1, r3.2.2.2.1, r3.2.2.2.2.1, r3.2.2.2.2.2.1, r3.2.2.2.2.2.2.1, r3.2.2.2.2.2.2.2.1, r3.2.2.2.2.2.2.2.2.1, r3.2.2.2.2.2.2.2.2.2.1, r3.2.2.2.2.2.2.2.2.2.2)
set_option maxHeartbeats 4000000 in
set_option maxRecDepth 100000 in
theorem mX11_image_0 (l : Launch) (D : zG) (a0 : Nat) (a0_now : Nat) (a0_images : Nat) (a0_merges : Nat) (a0_cut : Nat) (a0_index : Nat) (a0_otherIndex : Nat) (a0_readWords : Nat) (a0_triedPattern : Nat) (a0_alike : Nat) (a0_now_tape : Nat) (a0_now_dictionary : Nat) (a0_now_coming : Nat) (a0_now_pattern : Nat) (a0_now_fault : Nat) (a0_now_tape_bytes : Nat) (a0_now_dictionary_rows : Nat) (a0_now_coming_rows : Nat) (a0_now_pattern_signs : Nat) (a0_images_0 : Nat) (a0_images_0_tape : Nat) (a0_images_0_dictionary : Nat) (a0_images_0_coming : Nat) (a0_images_0_pattern : Nat) (a0_images_0_fault : Nat) (a0_images_0_tape_bytes : Nat) (a0_images_0_dictionary_rows : Nat) (a0_images_0_coming_rows : Nat) (a0_images_0_pattern_signs : Nat) (sz : Nat)  (v0_now_edits : Int32) (v0_now_tape_size : Int32) (g0_now_tape_bytes : Nat → Int32) (v0_now_dictionary_size : Int32) (g0_now_dictionary_rows : Nat → Int64) (v0_now_coming_size : Int32) (g0_now_coming_rows : Nat → Int64) (v0_now_pattern_size : Int32) (g0_now_pattern_signs : Nat → Int32) (v0_now_fault_kind : Int32) (v0_now_fault_place : Int32) (o0_images_1 : Option Nat) (o0_images_2 : Option Nat) (v0_images_0_edits : Int32) (v0_images_0_tape_size : Int32) (g0_images_0_tape_bytes : Nat → Int32) (v0_images_0_dictionary_size : Int32) (g0_images_0_dictionary_rows : Nat → Int64) (v0_images_0_coming_size : Int32) (g0_images_0_coming_rows : Nat → Int64) (v0_images_0_pattern_size : Int32) (g0_images_0_pattern_signs : Nat → Int32) (v0_images_0_fault_kind : Int32) (v0_images_0_fault_place : Int32)  (res : Int32 × Int32 × Int32 × (Nat → Int32) × Int32 × (Nat → Int64) × Int32 × (Nat → Int64) × Int32 × (Nat → Int32) × Int32 × Int32) (hf : fX11_image_0 v0_now_edits v0_now_tape_size g0_now_tape_bytes v0_now_dictionary_size g0_now_dictionary_rows v0_now_coming_size g0_now_coming_rows v0_now_pattern_size g0_now_pattern_signs v0_now_fault_kind v0_now_fault_place v0_images_0_edits v0_images_0_tape_size g0_images_0_tape_bytes v0_images_0_dictionary_size g0_images_0_dictionary_rows v0_images_0_coming_size g0_images_0_coming_rows v0_images_0_pattern_size g0_images_0_pattern_signs v0_images_0_fault_kind v0_images_0_fault_place = some res) : Met l yX11_image wsX11_image ({ frames := 3, cells := 0, slots := 0, locals := 82 } : Room) (va_Pc [.ref a0, .int (0 : Int32)] (zW D sz [(a0, .inr (8, [.ref a0_now, .ref a0_images, .ref a0_merges, .ref a0_cut, .ref a0_index, .ref a0_otherIndex, .ref a0_readWords, .ref a0_triedPattern, .ref a0_alike])), (a0_now, .inr (6, [.ref a0_now_tape, .ref a0_now_dictionary, .ref a0_now_coming, .ref a0_now_pattern, .ref a0_now_fault, .int v0_now_edits])), (a0_now_tape, .inr (7, [.ref a0_now_tape_bytes, .int v0_now_tape_size])), (a0_now_tape_bytes, .inl (D.2 0, 400, .inl g0_now_tape_bytes)), (a0_now_dictionary, .inr (5, [.ref a0_now_dictionary_rows, .int v0_now_dictionary_size])), (a0_now_dictionary_rows, .inl (D.2 2, 40, .inr (.inl g0_now_dictionary_rows))), (a0_now_coming, .inr (5, [.ref a0_now_coming_rows, .int v0_now_coming_size])), (a0_now_coming_rows, .inl (D.2 2, 40, .inr (.inl g0_now_coming_rows))), (a0_now_pattern, .inr (4, [.ref a0_now_pattern_signs, .int v0_now_pattern_size])), (a0_now_pattern_signs, .inl (D.2 1, 12, .inl g0_now_pattern_signs)), (a0_now_fault, .inr (1, [.int v0_now_fault_kind, .int v0_now_fault_place])), (a0_images, .inl (D.2 5, 3, .inr (.inr (.inr (.inr (zq3 (some a0_images_0) o0_images_1 o0_images_2)))))), (a0_images_0, .inr (6, [.ref a0_images_0_tape, .ref a0_images_0_dictionary, .ref a0_images_0_coming, .ref a0_images_0_pattern, .ref a0_images_0_fault, .int v0_images_0_edits])), (a0_images_0_tape, .inr (7, [.ref a0_images_0_tape_bytes, .int v0_images_0_tape_size])), (a0_images_0_tape_bytes, .inl (D.2 0, 400, .inl g0_images_0_tape_bytes)), (a0_images_0_dictionary, .inr (5, [.ref a0_images_0_dictionary_rows, .int v0_images_0_dictionary_size])), (a0_images_0_dictionary_rows, .inl (D.2 2, 40, .inr (.inl g0_images_0_dictionary_rows))), (a0_images_0_coming, .inr (5, [.ref a0_images_0_coming_rows, .int v0_images_0_coming_size])), (a0_images_0_coming_rows, .inl (D.2 2, 40, .inr (.inl g0_images_0_coming_rows))), (a0_images_0_pattern, .inr (4, [.ref a0_images_0_pattern_signs, .int v0_images_0_pattern_size])), (a0_images_0_pattern_signs, .inl (D.2 1, 12, .inl g0_images_0_pattern_signs)), (a0_images_0_fault, .inr (1, [.int v0_images_0_fault_kind, .int v0_images_0_fault_place]))])) (va_Qi (fun r (_ : Unit) => r = res.1 ∧ (r = 0 ∨ r = 1)) (fun _ => zB D (va_A [(a0, .inr (8, [.ref a0_now, .ref a0_images, .ref a0_merges, .ref a0_cut, .ref a0_index, .ref a0_otherIndex, .ref a0_readWords, .ref a0_triedPattern, .ref a0_alike])), (a0_now, .inr (6, [.ref a0_now_tape, .ref a0_now_dictionary, .ref a0_now_coming, .ref a0_now_pattern, .ref a0_now_fault, .int v0_now_edits])), (a0_now_tape, .inr (7, [.ref a0_now_tape_bytes, .int v0_now_tape_size])), (a0_now_tape_bytes, .inl (D.2 0, 400, .inl g0_now_tape_bytes)), (a0_now_dictionary, .inr (5, [.ref a0_now_dictionary_rows, .int v0_now_dictionary_size])), (a0_now_dictionary_rows, .inl (D.2 2, 40, .inr (.inl g0_now_dictionary_rows))), (a0_now_coming, .inr (5, [.ref a0_now_coming_rows, .int v0_now_coming_size])), (a0_now_coming_rows, .inl (D.2 2, 40, .inr (.inl g0_now_coming_rows))), (a0_now_pattern, .inr (4, [.ref a0_now_pattern_signs, .int v0_now_pattern_size])), (a0_now_pattern_signs, .inl (D.2 1, 12, .inl g0_now_pattern_signs)), (a0_now_fault, .inr (1, [.int v0_now_fault_kind, .int v0_now_fault_place])), (a0_images, .inl (D.2 5, 3, .inr (.inr (.inr (.inr (zq3 (some a0_images_0) o0_images_1 o0_images_2)))))), (a0_images_0, .inr (6, [.ref a0_images_0_tape, .ref a0_images_0_dictionary, .ref a0_images_0_coming, .ref a0_images_0_pattern, .ref a0_images_0_fault, .int v0_images_0_edits])), (a0_images_0_tape, .inr (7, [.ref a0_images_0_tape_bytes, .int v0_images_0_tape_size])), (a0_images_0_tape_bytes, .inl (D.2 0, 400, .inl g0_images_0_tape_bytes)), (a0_images_0_dictionary, .inr (5, [.ref a0_images_0_dictionary_rows, .int v0_images_0_dictionary_size])), (a0_images_0_dictionary_rows, .inl (D.2 2, 40, .inr (.inl g0_images_0_dictionary_rows))), (a0_images_0_coming, .inr (5, [.ref a0_images_0_coming_rows, .int v0_images_0_coming_size])), (a0_images_0_coming_rows, .inl (D.2 2, 40, .inr (.inl g0_images_0_coming_rows))), (a0_images_0_pattern, .inr (4, [.ref a0_images_0_pattern_signs, .int v0_images_0_pattern_size])), (a0_images_0_pattern_signs, .inl (D.2 1, 12, .inl g0_images_0_pattern_signs)), (a0_images_0_fault, .inr (1, [.int v0_images_0_fault_kind, .int v0_images_0_fault_place]))] sz) [(a0, .inr (8, [.ref a0_now, .ref a0_images, .ref a0_merges, .ref a0_cut, .ref a0_index, .ref a0_otherIndex, .ref a0_readWords, .ref a0_triedPattern, .ref a0_alike])), (a0_now, .inr (6, [.ref a0_now_tape, .ref a0_now_dictionary, .ref a0_now_coming, .ref a0_now_pattern, .ref a0_now_fault, .int v0_now_edits])), (a0_now_tape, .inr (7, [.ref a0_now_tape_bytes, .int v0_now_tape_size])), (a0_now_tape_bytes, .inl (D.2 0, 400, .inl g0_now_tape_bytes)), (a0_now_dictionary, .inr (5, [.ref a0_now_dictionary_rows, .int v0_now_dictionary_size])), (a0_now_dictionary_rows, .inl (D.2 2, 40, .inr (.inl g0_now_dictionary_rows))), (a0_now_coming, .inr (5, [.ref a0_now_coming_rows, .int v0_now_coming_size])), (a0_now_coming_rows, .inl (D.2 2, 40, .inr (.inl g0_now_coming_rows))), (a0_now_pattern, .inr (4, [.ref a0_now_pattern_signs, .int v0_now_pattern_size])), (a0_now_pattern_signs, .inl (D.2 1, 12, .inl g0_now_pattern_signs)), (a0_now_fault, .inr (1, [.int v0_now_fault_kind, .int v0_now_fault_place])), (a0_images, .inl (D.2 5, 3, .inr (.inr (.inr (.inr (zq3 (some a0_images_0) o0_images_1 o0_images_2)))))), (a0_images_0, .inr (6, [.ref a0_images_0_tape, .ref a0_images_0_dictionary, .ref a0_images_0_coming, .ref a0_images_0_pattern, .ref a0_images_0_fault, .int res.2.1])), (a0_images_0_tape, .inr (7, [.ref a0_images_0_tape_bytes, .int res.2.2.1])), (a0_images_0_tape_bytes, .inl (D.2 0, 400, .inl res.2.2.2.1)), (a0_images_0_dictionary, .inr (5, [.ref a0_images_0_dictionary_rows, .int res.2.2.2.2.1])), (a0_images_0_dictionary_rows, .inl (D.2 2, 40, .inr (.inl res.2.2.2.2.2.1))), (a0_images_0_coming, .inr (5, [.ref a0_images_0_coming_rows, .int res.2.2.2.2.2.2.1])), (a0_images_0_coming_rows, .inl (D.2 2, 40, .inr (.inl res.2.2.2.2.2.2.2.1))), (a0_images_0_pattern, .inr (4, [.ref a0_images_0_pattern_signs, .int res.2.2.2.2.2.2.2.2.1])), (a0_images_0_pattern_signs, .inl (D.2 1, 12, .inl res.2.2.2.2.2.2.2.2.2.1)), (a0_images_0_fault, .inr (1, [.int res.2.2.2.2.2.2.2.2.2.2.1, .int res.2.2.2.2.2.2.2.2.2.2.2]))]) (va_A [(a0, .inr (8, [.ref a0_now, .ref a0_images, .ref a0_merges, .ref a0_cut, .ref a0_index, .ref a0_otherIndex, .ref a0_readWords, .ref a0_triedPattern, .ref a0_alike])), (a0_now, .inr (6, [.ref a0_now_tape, .ref a0_now_dictionary, .ref a0_now_coming, .ref a0_now_pattern, .ref a0_now_fault, .int v0_now_edits])), (a0_now_tape, .inr (7, [.ref a0_now_tape_bytes, .int v0_now_tape_size])), (a0_now_tape_bytes, .inl (D.2 0, 400, .inl g0_now_tape_bytes)), (a0_now_dictionary, .inr (5, [.ref a0_now_dictionary_rows, .int v0_now_dictionary_size])), (a0_now_dictionary_rows, .inl (D.2 2, 40, .inr (.inl g0_now_dictionary_rows))), (a0_now_coming, .inr (5, [.ref a0_now_coming_rows, .int v0_now_coming_size])), (a0_now_coming_rows, .inl (D.2 2, 40, .inr (.inl g0_now_coming_rows))), (a0_now_pattern, .inr (4, [.ref a0_now_pattern_signs, .int v0_now_pattern_size])), (a0_now_pattern_signs, .inl (D.2 1, 12, .inl g0_now_pattern_signs)), (a0_now_fault, .inr (1, [.int v0_now_fault_kind, .int v0_now_fault_place])), (a0_images, .inl (D.2 5, 3, .inr (.inr (.inr (.inr (zq3 (some a0_images_0) o0_images_1 o0_images_2)))))), (a0_images_0, .inr (6, [.ref a0_images_0_tape, .ref a0_images_0_dictionary, .ref a0_images_0_coming, .ref a0_images_0_pattern, .ref a0_images_0_fault, .int v0_images_0_edits])), (a0_images_0_tape, .inr (7, [.ref a0_images_0_tape_bytes, .int v0_images_0_tape_size])), (a0_images_0_tape_bytes, .inl (D.2 0, 400, .inl g0_images_0_tape_bytes)), (a0_images_0_dictionary, .inr (5, [.ref a0_images_0_dictionary_rows, .int v0_images_0_dictionary_size])), (a0_images_0_dictionary_rows, .inl (D.2 2, 40, .inr (.inl g0_images_0_dictionary_rows))), (a0_images_0_coming, .inr (5, [.ref a0_images_0_coming_rows, .int v0_images_0_coming_size])), (a0_images_0_coming_rows, .inl (D.2 2, 40, .inr (.inl g0_images_0_coming_rows))), (a0_images_0_pattern, .inr (4, [.ref a0_images_0_pattern_signs, .int v0_images_0_pattern_size])), (a0_images_0_pattern_signs, .inl (D.2 1, 12, .inl g0_images_0_pattern_signs)), (a0_images_0_fault, .inr (1, [.int v0_images_0_fault_kind, .int v0_images_0_fault_place]))] sz)) 0 0 (va_A [(a0, .inr (8, [.ref a0_now, .ref a0_images, .ref a0_merges, .ref a0_cut, .ref a0_index, .ref a0_otherIndex, .ref a0_readWords, .ref a0_triedPattern, .ref a0_alike])), (a0_now, .inr (6, [.ref a0_now_tape, .ref a0_now_dictionary, .ref a0_now_coming, .ref a0_now_pattern, .ref a0_now_fault, .int v0_now_edits])), (a0_now_tape, .inr (7, [.ref a0_now_tape_bytes, .int v0_now_tape_size])), (a0_now_tape_bytes, .inl (D.2 0, 400, .inl g0_now_tape_bytes)), (a0_now_dictionary, .inr (5, [.ref a0_now_dictionary_rows, .int v0_now_dictionary_size])), (a0_now_dictionary_rows, .inl (D.2 2, 40, .inr (.inl g0_now_dictionary_rows))), (a0_now_coming, .inr (5, [.ref a0_now_coming_rows, .int v0_now_coming_size])), (a0_now_coming_rows, .inl (D.2 2, 40, .inr (.inl g0_now_coming_rows))), (a0_now_pattern, .inr (4, [.ref a0_now_pattern_signs, .int v0_now_pattern_size])), (a0_now_pattern_signs, .inl (D.2 1, 12, .inl g0_now_pattern_signs)), (a0_now_fault, .inr (1, [.int v0_now_fault_kind, .int v0_now_fault_place])), (a0_images, .inl (D.2 5, 3, .inr (.inr (.inr (.inr (zq3 (some a0_images_0) o0_images_1 o0_images_2)))))), (a0_images_0, .inr (6, [.ref a0_images_0_tape, .ref a0_images_0_dictionary, .ref a0_images_0_coming, .ref a0_images_0_pattern, .ref a0_images_0_fault, .int v0_images_0_edits])), (a0_images_0_tape, .inr (7, [.ref a0_images_0_tape_bytes, .int v0_images_0_tape_size])), (a0_images_0_tape_bytes, .inl (D.2 0, 400, .inl g0_images_0_tape_bytes)), (a0_images_0_dictionary, .inr (5, [.ref a0_images_0_dictionary_rows, .int v0_images_0_dictionary_size])), (a0_images_0_dictionary_rows, .inl (D.2 2, 40, .inr (.inl g0_images_0_dictionary_rows))), (a0_images_0_coming, .inr (5, [.ref a0_images_0_coming_rows, .int v0_images_0_coming_size])), (a0_images_0_coming_rows, .inl (D.2 2, 40, .inr (.inl g0_images_0_coming_rows))), (a0_images_0_pattern, .inr (4, [.ref a0_images_0_pattern_signs, .int v0_images_0_pattern_size])), (a0_images_0_pattern_signs, .inl (D.2 1, 12, .inl g0_images_0_pattern_signs)), (a0_images_0_fault, .inr (1, [.int v0_images_0_fault_kind, .int v0_images_0_fault_place]))] sz) := by
  refine Met.ofW (cc := cX11_image) (maxL := 2) (ret := (some .boolean)) (by decide) rfl ?_
  intro p e s m args below meth c s₁ B hml hv
  obtain ⟨rfl, hsz, hP, hK, hD0⟩ := hv
  have hx := B.exec
  have hb := B.bytes
  have hr := B.returns
  have hts := atoms_spec (ws := wsX11_image) B.pre
  have hown : s.vm.findClass RX11 = some m.cls := findClass_of_methodNamed B.named
  have hlocks := B.notSynchronized
  subst hsz
  have hD := hD0.self (sz := s.heap.size)
  generalize hAe : va_A [(a0, .inr (8, [.ref a0_now, .ref a0_images, .ref a0_merges, .ref a0_cut, .ref a0_index, .ref a0_otherIndex, .ref a0_readWords, .ref a0_triedPattern, .ref a0_alike])), (a0_now, .inr (6, [.ref a0_now_tape, .ref a0_now_dictionary, .ref a0_now_coming, .ref a0_now_pattern, .ref a0_now_fault, .int v0_now_edits])), (a0_now_tape, .inr (7, [.ref a0_now_tape_bytes, .int v0_now_tape_size])), (a0_now_tape_bytes, .inl (D.2 0, 400, .inl g0_now_tape_bytes)), (a0_now_dictionary, .inr (5, [.ref a0_now_dictionary_rows, .int v0_now_dictionary_size])), (a0_now_dictionary_rows, .inl (D.2 2, 40, .inr (.inl g0_now_dictionary_rows))), (a0_now_coming, .inr (5, [.ref a0_now_coming_rows, .int v0_now_coming_size])), (a0_now_coming_rows, .inl (D.2 2, 40, .inr (.inl g0_now_coming_rows))), (a0_now_pattern, .inr (4, [.ref a0_now_pattern_signs, .int v0_now_pattern_size])), (a0_now_pattern_signs, .inl (D.2 1, 12, .inl g0_now_pattern_signs)), (a0_now_fault, .inr (1, [.int v0_now_fault_kind, .int v0_now_fault_place])), (a0_images, .inl (D.2 5, 3, .inr (.inr (.inr (.inr (zq3 (some a0_images_0) o0_images_1 o0_images_2)))))), (a0_images_0, .inr (6, [.ref a0_images_0_tape, .ref a0_images_0_dictionary, .ref a0_images_0_coming, .ref a0_images_0_pattern, .ref a0_images_0_fault, .int v0_images_0_edits])), (a0_images_0_tape, .inr (7, [.ref a0_images_0_tape_bytes, .int v0_images_0_tape_size])), (a0_images_0_tape_bytes, .inl (D.2 0, 400, .inl g0_images_0_tape_bytes)), (a0_images_0_dictionary, .inr (5, [.ref a0_images_0_dictionary_rows, .int v0_images_0_dictionary_size])), (a0_images_0_dictionary_rows, .inl (D.2 2, 40, .inr (.inl g0_images_0_dictionary_rows))), (a0_images_0_coming, .inr (5, [.ref a0_images_0_coming_rows, .int v0_images_0_coming_size])), (a0_images_0_coming_rows, .inl (D.2 2, 40, .inr (.inl g0_images_0_coming_rows))), (a0_images_0_pattern, .inr (4, [.ref a0_images_0_pattern_signs, .int v0_images_0_pattern_size])), (a0_images_0_pattern_signs, .inl (D.2 1, 12, .inl g0_images_0_pattern_signs)), (a0_images_0_fault, .inr (1, [.int v0_images_0_fault_kind, .int v0_images_0_fault_place]))] s.heap.size = A at hD ⊢
  have hA : ∀ q : Nat, s.heap.size ≤ q → A q := fun q h => by rw [← hAe]; exact Or.inr h
  have l16 := zat hts 1 (w := .fieldLink RX11 16 "TurnedWords" "images" "[LTurnedWords$State;") rfl
  have l12 := zat hts 5 (w := .fieldLink RX11 12 "TurnedWords" "now" "LTurnedWords$State;") rfl
  have hwX11 : ∀ w ∈ u_ws RX11 TX11 9, w ∈ wsX11_image := fun w h => List.mem_cons_of_mem _ (List.mem_append_left _ (List.mem_append_left _ (List.mem_append_left _ (List.mem_append_left _ (List.mem_append_left _ (List.mem_append_right _ h))))))
  have hl := lv_entry ([.ref a0, .int (0 : Int32)]) (n := 2) (Nat.le_of_ble_eq_true rfl)
  rw [lg_entry_eq]
  generalize (lg_sl ([.ref a0, .int (0 : Int32)]) ++ List.replicate (2 - (lg_sl ([.ref a0, .int (0 : Int32)])).length) Slot.unset).toArray = ls at hl ⊢
  have hl : lv_has ls 2 [(0, .ref a0), (1, .int (0 : Int32))] := hl
  refine zStart (A := A) hP (fun Q0 H locs hQ hP hS => ?_)
  unfold fX11_image_0 at hf
  refine lv_iload_n hx hb dX11_image_0 rfl (lv_at hl 1 rfl) ?_
  refine lv_if_lt (tgt := 9) hx hb dX11_image_1 (by decide) (fun c_1 => absurd c_1 (by decide)) (fun _ => ?_)
  refine lv_iload_n hx hb dX11_image_4 rfl (lv_at hl 1 rfl) ?_
  refine lv_iconst (v := 3) hx hb dX11_image_5 (by decide) ?_
  refine lv_icmp_lt (tgt := 11) hx hb dX11_image_6 (by decide) (fun _ => ?_) (fun c_2 => absurd (by decide) c_2)
  refine lv_aload_n hx hb dX11_image_11 rfl (lv_at hl 0 rfl) ?_
  refine va_get (D := D.1) (ci := 8) (v := .ref a0_images) (C := RX11) (T := TX11) (N := 9) hx hb hts hwX11 hown hK.1 hP 0 rfl rfl 1 (by decide) l16 (fun _ h9 => h9) rfl dX11_image_12 ?_
  refine lv_iload_n hx hb dX11_image_15 rfl (lv_at hl 1 rfl) ?_
  refine va_aldq hx hb hK.1 hP 11 5 rfl rfl (show ¬ ((0 : Int32) < 0 ∨ 3 ≤ ((0 : Int32)).toNatClampNeg) by decide) dX11_image_16 ?_
  refine W.eq (g2 := F0 m 17 ls [.ref a0_images_0]) rfl ?_
  refine lv_ifnonnull (tgt := 33) hx hb dX11_image_17 (by decide) ?_
  refine lv_aload_n hx hb dX11_image_33 rfl (lv_at hl 0 rfl) ?_
  refine va_get (D := D.1) (ci := 8) (v := .ref a0_images) (C := RX11) (T := TX11) (N := 9) hx hb hts hwX11 hown hK.1 hP 0 rfl rfl 1 (by decide) l16 (fun _ h9 => h9) rfl dX11_image_34 ?_
  refine lv_iload_n hx hb dX11_image_37 rfl (lv_at hl 1 rfl) ?_
  refine va_aldq hx hb hK.1 hP 11 5 rfl rfl (show ¬ ((0 : Int32) < 0 ∨ 3 ≤ ((0 : Int32)).toNatClampNeg) by decide) dX11_image_38 ?_
  refine W.eq (g2 := F0 m 39 ls [.ref a0_images_0]) rfl ?_
  refine lv_aload_n hx hb dX11_image_39 rfl (lv_at hl 0 rfl) ?_
  refine va_get (D := D.1) (ci := 8) (v := .ref a0_now) (C := RX11) (T := TX11) (N := 9) hx hb hts hwX11 hown hK.1 hP 0 rfl rfl 0 (by decide) l12 (fun _ h9 => h9) rfl dX11_image_40 ?_
  obtain ⟨r3, hr3, hf⟩ := bd hf
  refine zVv (As := [.ref a0_now]) (rest := []) (ci := 6) (q0 := 0) (wn := [(a0, .inr (8, [.ref a0_now, .ref a0_images, .ref a0_merges, .ref a0_cut, .ref a0_index, .ref a0_otherIndex, .ref a0_readWords, .ref a0_triedPattern, .ref a0_alike])), (a0_now, .inr (6, [.ref a0_now_tape, .ref a0_now_dictionary, .ref a0_now_coming, .ref a0_now_pattern, .ref a0_now_fault, .int v0_now_edits])), (a0_now_tape, .inr (7, [.ref a0_now_tape_bytes, .int v0_now_tape_size])), (a0_now_tape_bytes, .inl (D.2 0, 400, .inl g0_now_tape_bytes)), (a0_now_dictionary, .inr (5, [.ref a0_now_dictionary_rows, .int v0_now_dictionary_size])), (a0_now_dictionary_rows, .inl (D.2 2, 40, .inr (.inl g0_now_dictionary_rows))), (a0_now_coming, .inr (5, [.ref a0_now_coming_rows, .int v0_now_coming_size])), (a0_now_coming_rows, .inl (D.2 2, 40, .inr (.inl g0_now_coming_rows))), (a0_now_pattern, .inr (4, [.ref a0_now_pattern_signs, .int v0_now_pattern_size])), (a0_now_pattern_signs, .inl (D.2 1, 12, .inl g0_now_pattern_signs)), (a0_now_fault, .inr (1, [.int v0_now_fault_kind, .int v0_now_fault_place])), (a0_images, .inl (D.2 5, 3, .inr (.inr (.inr (.inr (zq3 (some a0_images_0) o0_images_1 o0_images_2)))))), (a0_images_0, .inr (6, [.ref a0_images_0_tape, .ref a0_images_0_dictionary, .ref a0_images_0_coming, .ref a0_images_0_pattern, .ref a0_images_0_fault, .int r3.1])), (a0_images_0_tape, .inr (7, [.ref a0_images_0_tape_bytes, .int r3.2.1])), (a0_images_0_tape_bytes, .inl (D.2 0, 400, .inl r3.2.2.1)), (a0_images_0_dictionary, .inr (5, [.ref a0_images_0_dictionary_rows, .int r3.2.2.2.1])), (a0_images_0_dictionary_rows, .inl (D.2 2, 40, .inr (.inl r3.2.2.2.2.1))), (a0_images_0_coming, .inr (5, [.ref a0_images_0_coming_rows, .int r3.2.2.2.2.2.1])), (a0_images_0_coming_rows, .inl (D.2 2, 40, .inr (.inl r3.2.2.2.2.2.2.1))), (a0_images_0_pattern, .inr (4, [.ref a0_images_0_pattern_signs, .int r3.2.2.2.2.2.2.2.1])), (a0_images_0_pattern_signs, .inl (D.2 1, 12, .inl r3.2.2.2.2.2.2.2.2.1)), (a0_images_0_fault, .inr (1, [.int r3.2.2.2.2.2.2.2.2.2.1, .int r3.2.2.2.2.2.2.2.2.2.2]))]) ⟨hx, hb, hml, hown, hts⟩ (mX9_copy l D a0_images_0 a0_images_0_tape a0_images_0_dictionary a0_images_0_coming a0_images_0_pattern a0_images_0_fault a0_images_0_tape_bytes a0_images_0_dictionary_rows a0_images_0_coming_rows a0_images_0_pattern_signs a0_now a0_now_tape a0_now_dictionary a0_now_coming a0_now_pattern a0_now_fault a0_now_tape_bytes a0_now_dictionary_rows a0_now_coming_rows a0_now_pattern_signs H.size v0_images_0_edits v0_images_0_tape_size g0_images_0_tape_bytes v0_images_0_dictionary_size g0_images_0_dictionary_rows v0_images_0_coming_size g0_images_0_coming_rows v0_images_0_pattern_size g0_images_0_pattern_signs v0_images_0_fault_kind v0_images_0_fault_place v0_now_edits v0_now_tape_size g0_now_tape_bytes v0_now_dictionary_size g0_now_dictionary_rows v0_now_coming_size g0_now_coming_rows v0_now_pattern_size g0_now_pattern_signs v0_now_fault_kind v0_now_fault_place r3 hr3) (cwV 1 hts gX11_image_X9_copy rfl rfl rfl (by decide +kernel) ⟨Nat.le_of_ble_eq_true rfl, Nat.le_of_ble_eq_true rfl⟩) hK hP hD hS hA [12, 13, 14, 15, 16, 17, 18, 19, 20, 21, 1, 2, 3, 4, 5, 6, 7, 8, 9, 10] [0, 11] [0, 12, 13, 14, 15, 16, 17, 18, 19, 20, 21, 1, 2, 3, 4, 5, 6, 7, 8, 9, 10, 11] rfl (by decide) rfl (by decide) (by decide) rfl (by decide) rfl rfl rfl hl.1 rfl (Nat.le_of_ble_eq_true rfl) dX11_image_43 ⟨Nat.zero_le _, Nat.zero_le _⟩ (fun H locs hP hD hS => ?_)
  refine lv_iconst (v := 1) hx hb dX11_image_46 (by decide) ?_
  have he := Option.some.inj hf
  rw [hQ]
  exact W.zret (v := (1 : Int32)) hx hb hr (znb (Or.inr rfl)) (fun t ht hW => by rw [← he]; exact ⟨⟨(1 : Int32), (), rfl, ⟨rfl, Or.inr rfl⟩, by rw [ht]; exact hP, hD⟩, hS.F ht⟩) hS.2.2 dX11_image_47
