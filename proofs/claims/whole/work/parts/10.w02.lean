def fX1_lay (N : Nat) (v0_size : Int32) (v0_runs : Int32) (v0_pieces : Int32) (v0_inRun : Int32) (g0_signs : Nat → Int32) (g0_starts : Nat → Int32) (g0_lengths : Nat → Int32) (g0_piecesOfRuns : Nat → Int32) (g0_heads : Nat → Int64) (v1_size : Int32) (g1_signs : Nat → Int32) : Option (Int32 × Int32 × Int32 × Int32 × (Nat → Int32) × (Nat → Int32) × (Nat → Int32) × (Nat → Int32) × (Nat → Int64)) :=
  Option.bind (fX1_firstStar N v1_size g1_signs) fun r1 =>
  Option.bind (fX1_lastStar N v1_size g1_signs) fun r2 =>
  Option.bind (fX1_beginPiece (0 : Int32) v0_inRun) fun r3 =>
  Option.bind (fX5_size v1_size) fun r4 =>
  Option.bind (fX1_layPart N (0 : Int32) (0 : Int32) r3.1 r3.2 g0_signs g0_starts g0_lengths g0_piecesOfRuns g0_heads v1_size g1_signs (r2 + (1 : Int32)) r4) fun r5 =>
  Option.bind (fX1_laySign r5.1 r5.2.1 r3.1 r5.2.2.1 r5.2.2.2.1 r5.2.2.2.2.1 r5.2.2.2.2.2.1 r5.2.2.2.2.2.2.1 r5.2.2.2.2.2.2.2 (36 : Int32)) fun r6 =>
  Option.bind (fX1_layPart N r6.1 r6.2.1 r3.1 r6.2.2.1 r6.2.2.2.1 r6.2.2.2.2.1 r6.2.2.2.2.2.1 r6.2.2.2.2.2.2.1 r6.2.2.2.2.2.2.2 v1_size g1_signs (0 : Int32) r1) fun r7 =>
  Option.bind (fX1_layBetween N r7.1 r7.2.1 r3.1 r7.2.2.1 r7.2.2.2.1 r7.2.2.2.2.1 r7.2.2.2.2.2.1 r7.2.2.2.2.2.2.1 r7.2.2.2.2.2.2.2 v1_size g1_signs r1 r2) fun r8 =>
  some (r8.1, r8.2.1, r8.2.2.1, r8.2.2.2.1, r8.2.2.2.2.1, r8.2.2.2.2.2.1, r8.2.2.2.2.2.2.1, r8.2.2.2.2.2.2.2.1, r8.2.2.2.2.2.2.2.2)
set_option maxHeartbeats 4000000 in
set_option maxRecDepth 100000 in
theorem mX1_lay (l : Launch) (D : zG) (a0 : Nat) (a0_signs : Nat) (a0_starts : Nat) (a0_lengths : Nat) (a0_piecesOfRuns : Nat) (a0_heads : Nat) (a1 : Nat) (a1_signs : Nat) (sz : Nat)  (v0_size : Int32) (v0_runs : Int32) (v0_pieces : Int32) (v0_inRun : Int32) (g0_signs : Nat → Int32) (g0_starts : Nat → Int32) (g0_lengths : Nat → Int32) (g0_piecesOfRuns : Nat → Int32) (g0_heads : Nat → Int64) (v1_size : Int32) (g1_signs : Nat → Int32)  (N : Nat) (res : Int32 × Int32 × Int32 × Int32 × (Nat → Int32) × (Nat → Int32) × (Nat → Int32) × (Nat → Int32) × (Nat → Int64)) (hf : fX1_lay N v0_size v0_runs v0_pieces v0_inRun g0_signs g0_starts g0_lengths g0_piecesOfRuns g0_heads v1_size g1_signs = some res) : Met l yX1_lay wsX1_lay ({ frames := 4, cells := 0, slots := 0, locals := 90 } : Room) (va_Pc [.ref a0, .ref a1] (zW D sz [(a0, .inr (0, [.ref a0_signs, .ref a0_starts, .ref a0_lengths, .ref a0_piecesOfRuns, .ref a0_heads, .int v0_size, .int v0_runs, .int v0_pieces, .int v0_inRun])), (a0_signs, .inl (D.2 1, 13, .inl g0_signs)), (a0_starts, .inl (D.2 1, 13, .inl g0_starts)), (a0_lengths, .inl (D.2 1, 13, .inl g0_lengths)), (a0_piecesOfRuns, .inl (D.2 1, 13, .inl g0_piecesOfRuns)), (a0_heads, .inl (D.2 2, 13, .inr (.inl g0_heads))), (a1, .inr (4, [.ref a1_signs, .int v1_size])), (a1_signs, .inl (D.2 1, 12, .inl g1_signs))])) (va_Qv (fun (_ : Unit) => True) (fun _ => zB D (va_A [(a0, .inr (0, [.ref a0_signs, .ref a0_starts, .ref a0_lengths, .ref a0_piecesOfRuns, .ref a0_heads, .int v0_size, .int v0_runs, .int v0_pieces, .int v0_inRun])), (a0_signs, .inl (D.2 1, 13, .inl g0_signs)), (a0_starts, .inl (D.2 1, 13, .inl g0_starts)), (a0_lengths, .inl (D.2 1, 13, .inl g0_lengths)), (a0_piecesOfRuns, .inl (D.2 1, 13, .inl g0_piecesOfRuns)), (a0_heads, .inl (D.2 2, 13, .inr (.inl g0_heads))), (a1, .inr (4, [.ref a1_signs, .int v1_size])), (a1_signs, .inl (D.2 1, 12, .inl g1_signs))] sz) [(a0, .inr (0, [.ref a0_signs, .ref a0_starts, .ref a0_lengths, .ref a0_piecesOfRuns, .ref a0_heads, .int res.1, .int res.2.1, .int res.2.2.1, .int res.2.2.2.1])), (a0_signs, .inl (D.2 1, 13, .inl res.2.2.2.2.1)), (a0_starts, .inl (D.2 1, 13, .inl res.2.2.2.2.2.1)), (a0_lengths, .inl (D.2 1, 13, .inl res.2.2.2.2.2.2.1)), (a0_piecesOfRuns, .inl (D.2 1, 13, .inl res.2.2.2.2.2.2.2.1)), (a0_heads, .inl (D.2 2, 13, .inr (.inl res.2.2.2.2.2.2.2.2))), (a1, .inr (4, [.ref a1_signs, .int v1_size])), (a1_signs, .inl (D.2 1, 12, .inl g1_signs))]) (va_A [(a0, .inr (0, [.ref a0_signs, .ref a0_starts, .ref a0_lengths, .ref a0_piecesOfRuns, .ref a0_heads, .int v0_size, .int v0_runs, .int v0_pieces, .int v0_inRun])), (a0_signs, .inl (D.2 1, 13, .inl g0_signs)), (a0_starts, .inl (D.2 1, 13, .inl g0_starts)), (a0_lengths, .inl (D.2 1, 13, .inl g0_lengths)), (a0_piecesOfRuns, .inl (D.2 1, 13, .inl g0_piecesOfRuns)), (a0_heads, .inl (D.2 2, 13, .inr (.inl g0_heads))), (a1, .inr (4, [.ref a1_signs, .int v1_size])), (a1_signs, .inl (D.2 1, 12, .inl g1_signs))] sz)) 0 0 (va_A [(a0, .inr (0, [.ref a0_signs, .ref a0_starts, .ref a0_lengths, .ref a0_piecesOfRuns, .ref a0_heads, .int v0_size, .int v0_runs, .int v0_pieces, .int v0_inRun])), (a0_signs, .inl (D.2 1, 13, .inl g0_signs)), (a0_starts, .inl (D.2 1, 13, .inl g0_starts)), (a0_lengths, .inl (D.2 1, 13, .inl g0_lengths)), (a0_piecesOfRuns, .inl (D.2 1, 13, .inl g0_piecesOfRuns)), (a0_heads, .inl (D.2 2, 13, .inr (.inl g0_heads))), (a1, .inr (4, [.ref a1_signs, .int v1_size])), (a1_signs, .inl (D.2 1, 12, .inl g1_signs))] sz) := by
  refine Met.ofW (cc := cX1_lay) (maxL := 4) (ret := none) (by decide) rfl ?_
  intro p e s m args below meth c s₁ B hml hv
  obtain ⟨rfl, hsz, hP, hK, hD0⟩ := hv
  have hx := B.exec
  have hb := B.bytes
  have hr := B.returns
  have hts := atoms_spec (ws := wsX1_lay) B.pre
  have hown : s.vm.findClass RX1 = some m.cls := findClass_of_methodNamed B.named
  have hlocks := B.notSynchronized
  subst hsz
  have hD := hD0.self (sz := s.heap.size)
  generalize hAe : va_A [(a0, .inr (0, [.ref a0_signs, .ref a0_starts, .ref a0_lengths, .ref a0_piecesOfRuns, .ref a0_heads, .int v0_size, .int v0_runs, .int v0_pieces, .int v0_inRun])), (a0_signs, .inl (D.2 1, 13, .inl g0_signs)), (a0_starts, .inl (D.2 1, 13, .inl g0_starts)), (a0_lengths, .inl (D.2 1, 13, .inl g0_lengths)), (a0_piecesOfRuns, .inl (D.2 1, 13, .inl g0_piecesOfRuns)), (a0_heads, .inl (D.2 2, 13, .inr (.inl g0_heads))), (a1, .inr (4, [.ref a1_signs, .int v1_size])), (a1_signs, .inl (D.2 1, 12, .inl g1_signs))] s.heap.size = A at hD ⊢
  have hA : ∀ q : Nat, s.heap.size ≤ q → A q := fun q h => by rw [← hAe]; exact Or.inr h
  have l28 := zat hts 1 (w := .fieldLink RX1 28 "TurnedWords$Cut" "size" "I") rfl
  have l32 := zat hts 2 (w := .fieldLink RX1 32 "TurnedWords$Cut" "runs" "I") rfl
  have l35 := zat hts 3 (w := .fieldLink RX1 35 "TurnedWords$Cut" "pieces" "I") rfl
  have hwX1 : ∀ w ∈ u_ws RX1 TX1 9, w ∈ wsX1_lay := fun w h => List.mem_cons_of_mem _ (List.mem_append_left _ (List.mem_append_right _ h))
  have hl := lv_entry ([.ref a0, .ref a1]) (n := 4) (Nat.le_of_ble_eq_true rfl)
  rw [lg_entry_eq]
  generalize (lg_sl ([.ref a0, .ref a1]) ++ List.replicate (4 - (lg_sl ([.ref a0, .ref a1])).length) Slot.unset).toArray = ls at hl ⊢
  have hl : lv_has ls 4 [(0, .ref a0), (1, .ref a1)] := hl
  refine zStart (A := A) hP (fun Q0 H locs hQ hP hS => ?_)
  unfold fX1_lay at hf
  refine lv_aload_n hx hb dX1_lay_0 rfl (lv_at hl 0 rfl) ?_
  refine lv_iconst (v := 0) hx hb dX1_lay_1 (by decide) ?_
  refine va_put (D := D.1) (ci := 0) (v := .int (0 : Int32)) (ty := .int) (C := RX1) (T := TX1) (N := 9) hx hb hts hwX1 tyX1 tyX1_ok nmX1 hown hK.1 hP hD hS 0 rfl rfl 5 (by decide) l28 (fun _ h9 => h9) rfl (by decide +kernel) rfl rfl (Nat.le_of_ble_eq_true rfl) dX1_lay_2 (fun H locs hP hD hS => ?_)
  have hP : va_P D.1 vwCl [(a0, .inr (0, [.ref a0_signs, .ref a0_starts, .ref a0_lengths, .ref a0_piecesOfRuns, .ref a0_heads, .int (0 : Int32), .int v0_runs, .int v0_pieces, .int v0_inRun])), (a0_signs, .inl (D.2 1, 13, .inl g0_signs)), (a0_starts, .inl (D.2 1, 13, .inl g0_starts)), (a0_lengths, .inl (D.2 1, 13, .inl g0_lengths)), (a0_piecesOfRuns, .inl (D.2 1, 13, .inl g0_piecesOfRuns)), (a0_heads, .inl (D.2 2, 13, .inr (.inl g0_heads))), (a1, .inr (4, [.ref a1_signs, .int v1_size])), (a1_signs, .inl (D.2 1, 12, .inl g1_signs))] H := hP
  have hD : va_D A [(a0, .inr (0, [.ref a0_signs, .ref a0_starts, .ref a0_lengths, .ref a0_piecesOfRuns, .ref a0_heads, .int (0 : Int32), .int v0_runs, .int v0_pieces, .int v0_inRun])), (a0_signs, .inl (D.2 1, 13, .inl g0_signs)), (a0_starts, .inl (D.2 1, 13, .inl g0_starts)), (a0_lengths, .inl (D.2 1, 13, .inl g0_lengths)), (a0_piecesOfRuns, .inl (D.2 1, 13, .inl g0_piecesOfRuns)), (a0_heads, .inl (D.2 2, 13, .inr (.inl g0_heads))), (a1, .inr (4, [.ref a1_signs, .int v1_size])), (a1_signs, .inl (D.2 1, 12, .inl g1_signs))] := hD
  refine lv_aload_n hx hb dX1_lay_5 rfl (lv_at hl 0 rfl) ?_
  refine lv_iconst (v := 0) hx hb dX1_lay_6 (by decide) ?_
  refine va_put (D := D.1) (ci := 0) (v := .int (0 : Int32)) (ty := .int) (C := RX1) (T := TX1) (N := 9) hx hb hts hwX1 tyX1 tyX1_ok nmX1 hown hK.1 hP hD hS 0 rfl rfl 6 (by decide) l32 (fun _ h9 => h9) rfl (by decide +kernel) rfl rfl (Nat.le_of_ble_eq_true rfl) dX1_lay_7 (fun H locs hP hD hS => ?_)
  have hP : va_P D.1 vwCl [(a0, .inr (0, [.ref a0_signs, .ref a0_starts, .ref a0_lengths, .ref a0_piecesOfRuns, .ref a0_heads, .int (0 : Int32), .int (0 : Int32), .int v0_pieces, .int v0_inRun])), (a0_signs, .inl (D.2 1, 13, .inl g0_signs)), (a0_starts, .inl (D.2 1, 13, .inl g0_starts)), (a0_lengths, .inl (D.2 1, 13, .inl g0_lengths)), (a0_piecesOfRuns, .inl (D.2 1, 13, .inl g0_piecesOfRuns)), (a0_heads, .inl (D.2 2, 13, .inr (.inl g0_heads))), (a1, .inr (4, [.ref a1_signs, .int v1_size])), (a1_signs, .inl (D.2 1, 12, .inl g1_signs))] H := hP
  have hD : va_D A [(a0, .inr (0, [.ref a0_signs, .ref a0_starts, .ref a0_lengths, .ref a0_piecesOfRuns, .ref a0_heads, .int (0 : Int32), .int (0 : Int32), .int v0_pieces, .int v0_inRun])), (a0_signs, .inl (D.2 1, 13, .inl g0_signs)), (a0_starts, .inl (D.2 1, 13, .inl g0_starts)), (a0_lengths, .inl (D.2 1, 13, .inl g0_lengths)), (a0_piecesOfRuns, .inl (D.2 1, 13, .inl g0_piecesOfRuns)), (a0_heads, .inl (D.2 2, 13, .inr (.inl g0_heads))), (a1, .inr (4, [.ref a1_signs, .int v1_size])), (a1_signs, .inl (D.2 1, 12, .inl g1_signs))] := hD
  refine lv_aload_n hx hb dX1_lay_10 rfl (lv_at hl 0 rfl) ?_
  refine lv_iconst (v := 0) hx hb dX1_lay_11 (by decide) ?_
  refine va_put (D := D.1) (ci := 0) (v := .int (0 : Int32)) (ty := .int) (C := RX1) (T := TX1) (N := 9) hx hb hts hwX1 tyX1 tyX1_ok nmX1 hown hK.1 hP hD hS 0 rfl rfl 7 (by decide) l35 (fun _ h9 => h9) rfl (by decide +kernel) rfl rfl (Nat.le_of_ble_eq_true rfl) dX1_lay_12 (fun H locs hP hD hS => ?_)
  have hP : va_P D.1 vwCl [(a0, .inr (0, [.ref a0_signs, .ref a0_starts, .ref a0_lengths, .ref a0_piecesOfRuns, .ref a0_heads, .int (0 : Int32), .int (0 : Int32), .int (0 : Int32), .int v0_inRun])), (a0_signs, .inl (D.2 1, 13, .inl g0_signs)), (a0_starts, .inl (D.2 1, 13, .inl g0_starts)), (a0_lengths, .inl (D.2 1, 13, .inl g0_lengths)), (a0_piecesOfRuns, .inl (D.2 1, 13, .inl g0_piecesOfRuns)), (a0_heads, .inl (D.2 2, 13, .inr (.inl g0_heads))), (a1, .inr (4, [.ref a1_signs, .int v1_size])), (a1_signs, .inl (D.2 1, 12, .inl g1_signs))] H := hP
  have hD : va_D A [(a0, .inr (0, [.ref a0_signs, .ref a0_starts, .ref a0_lengths, .ref a0_piecesOfRuns, .ref a0_heads, .int (0 : Int32), .int (0 : Int32), .int (0 : Int32), .int v0_inRun])), (a0_signs, .inl (D.2 1, 13, .inl g0_signs)), (a0_starts, .inl (D.2 1, 13, .inl g0_starts)), (a0_lengths, .inl (D.2 1, 13, .inl g0_lengths)), (a0_piecesOfRuns, .inl (D.2 1, 13, .inl g0_piecesOfRuns)), (a0_heads, .inl (D.2 2, 13, .inr (.inl g0_heads))), (a1, .inr (4, [.ref a1_signs, .int v1_size])), (a1_signs, .inl (D.2 1, 12, .inl g1_signs))] := hD
  refine lv_aload_n hx hb dX1_lay_15 rfl (lv_at hl 1 rfl) ?_
  obtain ⟨r1, hr1, hf⟩ := bd hf
  refine zSi (As := [.ref a1]) (rest := []) (wn := [(a0, .inr (0, [.ref a0_signs, .ref a0_starts, .ref a0_lengths, .ref a0_piecesOfRuns, .ref a0_heads, .int (0 : Int32), .int (0 : Int32), .int (0 : Int32), .int v0_inRun])), (a0_signs, .inl (D.2 1, 13, .inl g0_signs)), (a0_starts, .inl (D.2 1, 13, .inl g0_starts)), (a0_lengths, .inl (D.2 1, 13, .inl g0_lengths)), (a0_piecesOfRuns, .inl (D.2 1, 13, .inl g0_piecesOfRuns)), (a0_heads, .inl (D.2 2, 13, .inr (.inl g0_heads))), (a1, .inr (4, [.ref a1_signs, .int v1_size])), (a1_signs, .inl (D.2 1, 12, .inl g1_signs))]) ⟨hx, hb, hml, hown, hts⟩ (mX1_firstStar l D a1 a1_signs H.size v1_size g1_signs N r1 hr1) (va_cwS 1 hts gX1_lay_X1_firstStar rfl rfl rfl (by decide +kernel) ⟨Nat.le_of_ble_eq_true rfl, Nat.le_of_ble_eq_true rfl⟩) hK hP hD hS hA [6, 7] [0, 1, 2, 3, 4, 5] [0, 1, 2, 3, 4, 5, 6, 7] rfl (by decide) rfl (by decide) (by decide) rfl (by decide) rfl hl.1 rfl (Nat.le_of_ble_eq_true rfl) dX1_lay_16 ⟨Nat.zero_le _, Nat.zero_le _⟩ (fun H locs hP hD hS => ?_)
  refine lv_istore_n (lv' := [(2, .int r1), (0, .ref a0), (1, .ref a1)]) hx hb dX1_lay_19 rfl hl (by decide) rfl (fun ls hl => ?_)
  refine lv_aload_n hx hb dX1_lay_20 rfl (lv_at hl 2 rfl) ?_
  obtain ⟨r2, hr2, hf⟩ := bd hf
  refine zSi (As := [.ref a1]) (rest := []) (wn := [(a0, .inr (0, [.ref a0_signs, .ref a0_starts, .ref a0_lengths, .ref a0_piecesOfRuns, .ref a0_heads, .int (0 : Int32), .int (0 : Int32), .int (0 : Int32), .int v0_inRun])), (a0_signs, .inl (D.2 1, 13, .inl g0_signs)), (a0_starts, .inl (D.2 1, 13, .inl g0_starts)), (a0_lengths, .inl (D.2 1, 13, .inl g0_lengths)), (a0_piecesOfRuns, .inl (D.2 1, 13, .inl g0_piecesOfRuns)), (a0_heads, .inl (D.2 2, 13, .inr (.inl g0_heads))), (a1, .inr (4, [.ref a1_signs, .int v1_size])), (a1_signs, .inl (D.2 1, 12, .inl g1_signs))]) ⟨hx, hb, hml, hown, hts⟩ (mX1_lastStar l D a1 a1_signs H.size v1_size g1_signs N r2 hr2) (va_cwS 1 hts gX1_lay_X1_lastStar rfl rfl rfl (by decide +kernel) ⟨Nat.le_of_ble_eq_true rfl, Nat.le_of_ble_eq_true rfl⟩) hK hP hD hS hA [6, 7] [0, 1, 2, 3, 4, 5] [0, 1, 2, 3, 4, 5, 6, 7] rfl (by decide) rfl (by decide) (by decide) rfl (by decide) rfl hl.1 rfl (Nat.le_of_ble_eq_true rfl) dX1_lay_21 ⟨Nat.zero_le _, Nat.zero_le _⟩ (fun H locs hP hD hS => ?_)
  refine lv_istore_n (lv' := [(3, .int r2), (2, .int r1), (0, .ref a0), (1, .ref a1)]) hx hb dX1_lay_24 rfl hl (by decide) rfl (fun ls hl => ?_)
  refine lv_aload_n hx hb dX1_lay_25 rfl (lv_at hl 2 rfl) ?_
  obtain ⟨r3, hr3, hf⟩ := bd hf
  refine zVv (As := []) (rest := []) (ci := 0) (q0 := 0) (wn := [(a0, .inr (0, [.ref a0_signs, .ref a0_starts, .ref a0_lengths, .ref a0_piecesOfRuns, .ref a0_heads, .int (0 : Int32), .int (0 : Int32), .int r3.1, .int r3.2])), (a0_signs, .inl (D.2 1, 13, .inl g0_signs)), (a0_starts, .inl (D.2 1, 13, .inl g0_starts)), (a0_lengths, .inl (D.2 1, 13, .inl g0_lengths)), (a0_piecesOfRuns, .inl (D.2 1, 13, .inl g0_piecesOfRuns)), (a0_heads, .inl (D.2 2, 13, .inr (.inl g0_heads))), (a1, .inr (4, [.ref a1_signs, .int v1_size])), (a1_signs, .inl (D.2 1, 12, .inl g1_signs))]) ⟨hx, hb, hml, hown, hts⟩ (mX1_beginPiece l D a0 a0_signs a0_starts a0_lengths a0_piecesOfRuns a0_heads H.size (0 : Int32) (0 : Int32) (0 : Int32) v0_inRun r3 hr3) (cwV 0 hts gX1_lay_X1_beginPiece rfl rfl rfl (by decide +kernel) ⟨Nat.le_of_ble_eq_true rfl, Nat.le_of_ble_eq_true rfl⟩) hK hP hD hS hA [0] [1, 2, 3, 4, 5, 6, 7] [7, 0, 1, 2, 3, 4, 5, 6] rfl (by decide) rfl (by decide) (by decide) rfl (by decide) rfl rfl rfl hl.1 rfl (Nat.le_of_ble_eq_true rfl) dX1_lay_26 ⟨Nat.zero_le _, Nat.zero_le _⟩ (fun H locs hP hD hS => ?_)
  refine lv_aload_n hx hb dX1_lay_29 rfl (lv_at hl 2 rfl) ?_
  refine lv_aload_n hx hb dX1_lay_30 rfl (lv_at hl 3 rfl) ?_
  refine lv_iload_n hx hb dX1_lay_31 rfl (lv_at hl 0 rfl) ?_
  refine lv_iconst (v := 1) hx hb dX1_lay_32 (by decide) ?_
  refine lv_iadd hx hb dX1_lay_33 ?_
  refine lv_aload_n hx hb dX1_lay_34 rfl (lv_at hl 3 rfl) ?_
  obtain ⟨r4, hr4, hf⟩ := bd hf
  refine zVi (As := []) (rest := [.int (r2 + (1 : Int32)), .ref a1, .ref a0]) (ci := 4) (q0 := 0) (wn := [(a0, .inr (0, [.ref a0_signs, .ref a0_starts, .ref a0_lengths, .ref a0_piecesOfRuns, .ref a0_heads, .int (0 : Int32), .int (0 : Int32), .int r3.1, .int r3.2])), (a0_signs, .inl (D.2 1, 13, .inl g0_signs)), (a0_starts, .inl (D.2 1, 13, .inl g0_starts)), (a0_lengths, .inl (D.2 1, 13, .inl g0_lengths)), (a0_piecesOfRuns, .inl (D.2 1, 13, .inl g0_piecesOfRuns)), (a0_heads, .inl (D.2 2, 13, .inr (.inl g0_heads))), (a1, .inr (4, [.ref a1_signs, .int v1_size])), (a1_signs, .inl (D.2 1, 12, .inl g1_signs))]) ⟨hx, hb, hml, hown, hts⟩ (mX5_size l D a1 a1_signs H.size v1_size r4 hr4) (cwV 0 hts gX1_lay_X5_size rfl rfl rfl (by decide +kernel) ⟨Nat.le_of_ble_eq_true rfl, Nat.le_of_ble_eq_true rfl⟩) hK hP hD hS hA [6] [0, 1, 2, 3, 4, 5, 7] [0, 1, 2, 3, 4, 5, 7, 6] rfl (by decide) rfl (by decide) (by decide) rfl (by decide) rfl rfl rfl hl.1 rfl (Nat.le_of_ble_eq_true rfl) dX1_lay_35 ⟨Nat.zero_le _, Nat.zero_le _⟩ (fun H locs hP hD hS => ?_)
  obtain ⟨r5, hr5, hf⟩ := bd hf
  refine zVv (As := [.ref a1, .int (r2 + (1 : Int32)), .int r4]) (rest := []) (ci := 0) (q0 := 0) (wn := [(a0, .inr (0, [.ref a0_signs, .ref a0_starts, .ref a0_lengths, .ref a0_piecesOfRuns, .ref a0_heads, .int r5.1, .int r5.2.1, .int r3.1, .int r5.2.2.1])), (a0_signs, .inl (D.2 1, 13, .inl r5.2.2.2.1)), (a0_starts, .inl (D.2 1, 13, .inl r5.2.2.2.2.1)), (a0_lengths, .inl (D.2 1, 13, .inl r5.2.2.2.2.2.1)), (a0_piecesOfRuns, .inl (D.2 1, 13, .inl r5.2.2.2.2.2.2.1)), (a0_heads, .inl (D.2 2, 13, .inr (.inl r5.2.2.2.2.2.2.2))), (a1, .inr (4, [.ref a1_signs, .int v1_size])), (a1_signs, .inl (D.2 1, 12, .inl g1_signs))]) ⟨hx, hb, hml, hown, hts⟩ (mX1_layPart l D a0 a0_signs a0_starts a0_lengths a0_piecesOfRuns a0_heads a1 a1_signs H.size (0 : Int32) (0 : Int32) r3.1 r3.2 g0_signs g0_starts g0_lengths g0_piecesOfRuns g0_heads v1_size g1_signs (r2 + (1 : Int32)) r4 N r5 hr5) (cwV 3 hts gX1_lay_X1_layPart rfl rfl rfl (by decide +kernel) ⟨Nat.le_of_ble_eq_true rfl, Nat.le_of_ble_eq_true rfl⟩) hK hP hD hS hA [0, 1, 2, 3, 4, 5, 6, 7] [] [0, 1, 2, 3, 4, 5, 6, 7] rfl (by decide) rfl (by decide) (by decide) rfl (by decide) rfl rfl rfl hl.1 rfl (Nat.le_of_ble_eq_true rfl) dX1_lay_38 ⟨Nat.zero_le _, Nat.zero_le _⟩ (fun H locs hP hD hS => ?_)
  refine lv_aload_n hx hb dX1_lay_41 rfl (lv_at hl 2 rfl) ?_
  refine lv_bipush (v := 36) hx hb dX1_lay_42 (by decide) ?_
  obtain ⟨r6, hr6, hf⟩ := bd hf
  refine zVv (As := [.int (36 : Int32)]) (rest := []) (ci := 0) (q0 := 0) (wn := [(a0, .inr (0, [.ref a0_signs, .ref a0_starts, .ref a0_lengths, .ref a0_piecesOfRuns, .ref a0_heads, .int r6.1, .int r6.2.1, .int r3.1, .int r6.2.2.1])), (a0_signs, .inl (D.2 1, 13, .inl r6.2.2.2.1)), (a0_starts, .inl (D.2 1, 13, .inl r6.2.2.2.2.1)), (a0_lengths, .inl (D.2 1, 13, .inl r6.2.2.2.2.2.1)), (a0_piecesOfRuns, .inl (D.2 1, 13, .inl r6.2.2.2.2.2.2.1)), (a0_heads, .inl (D.2 2, 13, .inr (.inl r6.2.2.2.2.2.2.2))), (a1, .inr (4, [.ref a1_signs, .int v1_size])), (a1_signs, .inl (D.2 1, 12, .inl g1_signs))]) ⟨hx, hb, hml, hown, hts⟩ (mX1_laySign l D a0 a0_signs a0_starts a0_lengths a0_piecesOfRuns a0_heads H.size r5.1 r5.2.1 r3.1 r5.2.2.1 r5.2.2.2.1 r5.2.2.2.2.1 r5.2.2.2.2.2.1 r5.2.2.2.2.2.2.1 r5.2.2.2.2.2.2.2 (36 : Int32) r6 hr6) (cwV 1 hts gX1_lay_X1_laySign rfl rfl rfl (by decide +kernel) ⟨Nat.le_of_ble_eq_true rfl, Nat.le_of_ble_eq_true rfl⟩) hK hP hD hS hA [0, 1, 2, 3, 4, 5] [6, 7] [2, 3, 4, 5, 6, 7, 0, 1] rfl (by decide) rfl (by decide) (by decide) rfl (by decide) rfl rfl rfl hl.1 rfl (Nat.le_of_ble_eq_true rfl) dX1_lay_44 ⟨Nat.zero_le _, Nat.zero_le _⟩ (fun H locs hP hD hS => ?_)
  refine lv_aload_n hx hb dX1_lay_47 rfl (lv_at hl 2 rfl) ?_
  refine lv_aload_n hx hb dX1_lay_48 rfl (lv_at hl 3 rfl) ?_
  refine lv_iconst (v := 0) hx hb dX1_lay_49 (by decide) ?_
  refine lv_iload_n hx hb dX1_lay_50 rfl (lv_at hl 1 rfl) ?_
  obtain ⟨r7, hr7, hf⟩ := bd hf
  refine zVv (As := [.ref a1, .int (0 : Int32), .int r1]) (rest := []) (ci := 0) (q0 := 0) (wn := [(a0, .inr (0, [.ref a0_signs, .ref a0_starts, .ref a0_lengths, .ref a0_piecesOfRuns, .ref a0_heads, .int r7.1, .int r7.2.1, .int r3.1, .int r7.2.2.1])), (a0_signs, .inl (D.2 1, 13, .inl r7.2.2.2.1)), (a0_starts, .inl (D.2 1, 13, .inl r7.2.2.2.2.1)), (a0_lengths, .inl (D.2 1, 13, .inl r7.2.2.2.2.2.1)), (a0_piecesOfRuns, .inl (D.2 1, 13, .inl r7.2.2.2.2.2.2.1)), (a0_heads, .inl (D.2 2, 13, .inr (.inl r7.2.2.2.2.2.2.2))), (a1, .inr (4, [.ref a1_signs, .int v1_size])), (a1_signs, .inl (D.2 1, 12, .inl g1_signs))]) ⟨hx, hb, hml, hown, hts⟩ (mX1_layPart l D a0 a0_signs a0_starts a0_lengths a0_piecesOfRuns a0_heads a1 a1_signs H.size r6.1 r6.2.1 r3.1 r6.2.2.1 r6.2.2.2.1 r6.2.2.2.2.1 r6.2.2.2.2.2.1 r6.2.2.2.2.2.2.1 r6.2.2.2.2.2.2.2 v1_size g1_signs (0 : Int32) r1 N r7 hr7) (cwV 3 hts gX1_lay_X1_layPart rfl rfl rfl (by decide +kernel) ⟨Nat.le_of_ble_eq_true rfl, Nat.le_of_ble_eq_true rfl⟩) hK hP hD hS hA [0, 1, 2, 3, 4, 5, 6, 7] [] [0, 1, 2, 3, 4, 5, 6, 7] rfl (by decide) rfl (by decide) (by decide) rfl (by decide) rfl rfl rfl hl.1 rfl (Nat.le_of_ble_eq_true rfl) dX1_lay_51 ⟨Nat.zero_le _, Nat.zero_le _⟩ (fun H locs hP hD hS => ?_)
  refine lv_aload_n hx hb dX1_lay_54 rfl (lv_at hl 2 rfl) ?_
  refine lv_aload_n hx hb dX1_lay_55 rfl (lv_at hl 3 rfl) ?_
  refine lv_iload_n hx hb dX1_lay_56 rfl (lv_at hl 1 rfl) ?_
  refine lv_iload_n hx hb dX1_lay_57 rfl (lv_at hl 0 rfl) ?_
  obtain ⟨r8, hr8, hf⟩ := bd hf
  refine zVv (As := [.ref a1, .int r1, .int r2]) (rest := []) (ci := 0) (q0 := 0) (wn := [(a0, .inr (0, [.ref a0_signs, .ref a0_starts, .ref a0_lengths, .ref a0_piecesOfRuns, .ref a0_heads, .int r8.1, .int r8.2.1, .int r8.2.2.1, .int r8.2.2.2.1])), (a0_signs, .inl (D.2 1, 13, .inl r8.2.2.2.2.1)), (a0_starts, .inl (D.2 1, 13, .inl r8.2.2.2.2.2.1)), (a0_lengths, .inl (D.2 1, 13, .inl r8.2.2.2.2.2.2.1)), (a0_piecesOfRuns, .inl (D.2 1, 13, .inl r8.2.2.2.2.2.2.2.1)), (a0_heads, .inl (D.2 2, 13, .inr (.inl r8.2.2.2.2.2.2.2.2))), (a1, .inr (4, [.ref a1_signs, .int v1_size])), (a1_signs, .inl (D.2 1, 12, .inl g1_signs))]) ⟨hx, hb, hml, hown, hts⟩ (mX1_layBetween l D a0 a0_signs a0_starts a0_lengths a0_piecesOfRuns a0_heads a1 a1_signs H.size r7.1 r7.2.1 r3.1 r7.2.2.1 r7.2.2.2.1 r7.2.2.2.2.1 r7.2.2.2.2.2.1 r7.2.2.2.2.2.2.1 r7.2.2.2.2.2.2.2 v1_size g1_signs r1 r2 N r8 hr8) (cwV 3 hts gX1_lay_X1_layBetween rfl rfl rfl (by decide +kernel) ⟨Nat.le_of_ble_eq_true rfl, Nat.le_of_ble_eq_true rfl⟩) hK hP hD hS hA [0, 1, 2, 3, 4, 5, 6, 7] [] [0, 1, 2, 3, 4, 5, 6, 7] rfl (by decide) rfl (by decide) (by decide) rfl (by decide) rfl rfl rfl hl.1 rfl (Nat.le_of_ble_eq_true rfl) dX1_lay_58 ⟨Nat.zero_le _, Nat.zero_le _⟩ (fun H locs hP hD hS => ?_)
  have he := Option.some.inj hf
  rw [hQ]
  exact W.vret hx hb hr (fun t ht hW => by rw [← he]; exact ⟨⟨(), rfl, trivial, by rw [ht]; exact hP, hD⟩, hS.F ht⟩) hS.2.2 dX1_lay_61
def fX1_pieces (v0_pieces : Int32) : Option (Int32) :=
  some (v0_pieces)
set_option maxHeartbeats 4000000 in
set_option maxRecDepth 100000 in
theorem mX1_pieces (l : Launch) (D : zG) (a0 : Nat) (a0_signs : Nat) (a0_starts : Nat) (a0_lengths : Nat) (a0_piecesOfRuns : Nat) (a0_heads : Nat) (sz : Nat)  (v0_size : Int32) (v0_runs : Int32) (v0_pieces : Int32) (v0_inRun : Int32)  (res : Int32) (hf : fX1_pieces v0_pieces = some res) : Met l yX1_pieces wsX1_pieces ({ frames := 0, cells := 0, slots := 0, locals := 0 } : Room) (va_Pc [.ref a0] (zW D sz [(a0, .inr (0, [.ref a0_signs, .ref a0_starts, .ref a0_lengths, .ref a0_piecesOfRuns, .ref a0_heads, .int v0_size, .int v0_runs, .int v0_pieces, .int v0_inRun]))])) (va_Qi (fun r (_ : Unit) => r = res) (fun _ => zB D (va_A [(a0, .inr (0, [.ref a0_signs, .ref a0_starts, .ref a0_lengths, .ref a0_piecesOfRuns, .ref a0_heads, .int v0_size, .int v0_runs, .int v0_pieces, .int v0_inRun]))] sz) [(a0, .inr (0, [.ref a0_signs, .ref a0_starts, .ref a0_lengths, .ref a0_piecesOfRuns, .ref a0_heads, .int v0_size, .int v0_runs, .int v0_pieces, .int v0_inRun]))]) (va_A [(a0, .inr (0, [.ref a0_signs, .ref a0_starts, .ref a0_lengths, .ref a0_piecesOfRuns, .ref a0_heads, .int v0_size, .int v0_runs, .int v0_pieces, .int v0_inRun]))] sz)) 0 0 (va_A [(a0, .inr (0, [.ref a0_signs, .ref a0_starts, .ref a0_lengths, .ref a0_piecesOfRuns, .ref a0_heads, .int v0_size, .int v0_runs, .int v0_pieces, .int v0_inRun]))] sz) := by
  refine Met.ofW (cc := cX1_pieces) (maxL := 1) (ret := (some .int)) (by decide) rfl ?_
  intro p e s m args below meth c s₁ B hml hv
  obtain ⟨rfl, hsz, hP, hK, hD0⟩ := hv
  have hx := B.exec
  have hb := B.bytes
  have hr := B.returns
  have hts := atoms_spec (ws := wsX1_pieces) B.pre
  have hown : s.vm.findClass RX1 = some m.cls := findClass_of_methodNamed B.named
  have hlocks := B.notSynchronized
  subst hsz
  have hD := hD0.self (sz := s.heap.size)
  generalize hAe : va_A [(a0, .inr (0, [.ref a0_signs, .ref a0_starts, .ref a0_lengths, .ref a0_piecesOfRuns, .ref a0_heads, .int v0_size, .int v0_runs, .int v0_pieces, .int v0_inRun]))] s.heap.size = A at hD ⊢
  have hA : ∀ q : Nat, s.heap.size ≤ q → A q := fun q h => by rw [← hAe]; exact Or.inr h
  have l35 := zat hts 1 (w := .fieldLink RX1 35 "TurnedWords$Cut" "pieces" "I") rfl
  have hwX1 : ∀ w ∈ u_ws RX1 TX1 9, w ∈ wsX1_pieces := fun w h => List.mem_cons_of_mem _ (List.mem_append_right _ h)
  have hl := lv_entry ([.ref a0]) (n := 1) (Nat.le_of_ble_eq_true rfl)
  rw [lg_entry_eq]
  generalize (lg_sl ([.ref a0]) ++ List.replicate (1 - (lg_sl ([.ref a0])).length) Slot.unset).toArray = ls at hl ⊢
  have hl : lv_has ls 1 [(0, .ref a0)] := hl
  refine zStart (A := A) hP (fun Q0 H locs hQ hP hS => ?_)
  unfold fX1_pieces at hf
  refine lv_aload_n hx hb dX1_pieces_0 rfl (lv_at hl 0 rfl) ?_
  refine va_get (D := D.1) (ci := 0) (v := .int v0_pieces) (C := RX1) (T := TX1) (N := 9) hx hb hts hwX1 hown hK.1 hP 0 rfl rfl 7 (by decide) l35 (fun _ h9 => h9) rfl dX1_pieces_1 ?_
  have he := Option.some.inj hf
  rw [hQ]
  exact W.iret (v := v0_pieces) hx hb hr (fun t ht hW => by rw [← he]; exact ⟨⟨v0_pieces, (), rfl, rfl, by rw [ht]; exact hP, hD⟩, hS.F ht⟩) hS.2.2 dX1_pieces_4
def fX1_runs (v0_runs : Int32) : Option (Int32) :=
  some (v0_runs)
set_option maxHeartbeats 4000000 in
set_option maxRecDepth 100000 in
theorem mX1_runs (l : Launch) (D : zG) (a0 : Nat) (a0_signs : Nat) (a0_starts : Nat) (a0_lengths : Nat) (a0_piecesOfRuns : Nat) (a0_heads : Nat) (sz : Nat)  (v0_size : Int32) (v0_runs : Int32) (v0_pieces : Int32) (v0_inRun : Int32)  (res : Int32) (hf : fX1_runs v0_runs = some res) : Met l yX1_runs wsX1_runs ({ frames := 0, cells := 0, slots := 0, locals := 0 } : Room) (va_Pc [.ref a0] (zW D sz [(a0, .inr (0, [.ref a0_signs, .ref a0_starts, .ref a0_lengths, .ref a0_piecesOfRuns, .ref a0_heads, .int v0_size, .int v0_runs, .int v0_pieces, .int v0_inRun]))])) (va_Qi (fun r (_ : Unit) => r = res) (fun _ => zB D (va_A [(a0, .inr (0, [.ref a0_signs, .ref a0_starts, .ref a0_lengths, .ref a0_piecesOfRuns, .ref a0_heads, .int v0_size, .int v0_runs, .int v0_pieces, .int v0_inRun]))] sz) [(a0, .inr (0, [.ref a0_signs, .ref a0_starts, .ref a0_lengths, .ref a0_piecesOfRuns, .ref a0_heads, .int v0_size, .int v0_runs, .int v0_pieces, .int v0_inRun]))]) (va_A [(a0, .inr (0, [.ref a0_signs, .ref a0_starts, .ref a0_lengths, .ref a0_piecesOfRuns, .ref a0_heads, .int v0_size, .int v0_runs, .int v0_pieces, .int v0_inRun]))] sz)) 0 0 (va_A [(a0, .inr (0, [.ref a0_signs, .ref a0_starts, .ref a0_lengths, .ref a0_piecesOfRuns, .ref a0_heads, .int v0_size, .int v0_runs, .int v0_pieces, .int v0_inRun]))] sz) := by
  refine Met.ofW (cc := cX1_runs) (maxL := 1) (ret := (some .int)) (by decide) rfl ?_
  intro p e s m args below meth c s₁ B hml hv
  obtain ⟨rfl, hsz, hP, hK, hD0⟩ := hv
  have hx := B.exec
  have hb := B.bytes
  have hr := B.returns
  have hts := atoms_spec (ws := wsX1_runs) B.pre
  have hown : s.vm.findClass RX1 = some m.cls := findClass_of_methodNamed B.named
  have hlocks := B.notSynchronized
  subst hsz
  have hD := hD0.self (sz := s.heap.size)
  generalize hAe : va_A [(a0, .inr (0, [.ref a0_signs, .ref a0_starts, .ref a0_lengths, .ref a0_piecesOfRuns, .ref a0_heads, .int v0_size, .int v0_runs, .int v0_pieces, .int v0_inRun]))] s.heap.size = A at hD ⊢
  have hA : ∀ q : Nat, s.heap.size ≤ q → A q := fun q h => by rw [← hAe]; exact Or.inr h
  have l32 := zat hts 1 (w := .fieldLink RX1 32 "TurnedWords$Cut" "runs" "I") rfl
  have hwX1 : ∀ w ∈ u_ws RX1 TX1 9, w ∈ wsX1_runs := fun w h => List.mem_cons_of_mem _ (List.mem_append_right _ h)
  have hl := lv_entry ([.ref a0]) (n := 1) (Nat.le_of_ble_eq_true rfl)
  rw [lg_entry_eq]
  generalize (lg_sl ([.ref a0]) ++ List.replicate (1 - (lg_sl ([.ref a0])).length) Slot.unset).toArray = ls at hl ⊢
  have hl : lv_has ls 1 [(0, .ref a0)] := hl
  refine zStart (A := A) hP (fun Q0 H locs hQ hP hS => ?_)
  unfold fX1_runs at hf
  refine lv_aload_n hx hb dX1_runs_0 rfl (lv_at hl 0 rfl) ?_
  refine va_get (D := D.1) (ci := 0) (v := .int v0_runs) (C := RX1) (T := TX1) (N := 9) hx hb hts hwX1 hown hK.1 hP 0 rfl rfl 6 (by decide) l32 (fun _ h9 => h9) rfl dX1_runs_1 ?_
  have he := Option.some.inj hf
  rw [hQ]
  exact W.iret (v := v0_runs) hx hb hr (fun t ht hW => by rw [← he]; exact ⟨⟨v0_runs, (), rfl, rfl, by rw [ht]; exact hP, hD⟩, hS.F ht⟩) hS.2.2 dX1_runs_4
def fX1_hasRun (v0_runs : Int32) (p1 : Int32) : Option (Int32) :=
  if p1 < (0 : Int32) then
    some ((0 : Int32))
  else
    if v0_runs ≤ p1 then
      some ((0 : Int32))
    else
      some ((1 : Int32))
set_option maxHeartbeats 4000000 in
set_option maxRecDepth 100000 in
theorem mX1_hasRun (l : Launch) (D : zG) (a0 : Nat) (a0_signs : Nat) (a0_starts : Nat) (a0_lengths : Nat) (a0_piecesOfRuns : Nat) (a0_heads : Nat) (sz : Nat)  (v0_size : Int32) (v0_runs : Int32) (v0_pieces : Int32) (v0_inRun : Int32) (p1 : Int32) (res : Int32) (hf : fX1_hasRun v0_runs p1 = some res) : Met l yX1_hasRun wsX1_hasRun ({ frames := 0, cells := 0, slots := 0, locals := 0 } : Room) (va_Pc [.ref a0, .int p1] (zW D sz [(a0, .inr (0, [.ref a0_signs, .ref a0_starts, .ref a0_lengths, .ref a0_piecesOfRuns, .ref a0_heads, .int v0_size, .int v0_runs, .int v0_pieces, .int v0_inRun]))])) (va_Qi (fun r (_ : Unit) => r = res ∧ (r = 0 ∨ r = 1)) (fun _ => zB D (va_A [(a0, .inr (0, [.ref a0_signs, .ref a0_starts, .ref a0_lengths, .ref a0_piecesOfRuns, .ref a0_heads, .int v0_size, .int v0_runs, .int v0_pieces, .int v0_inRun]))] sz) [(a0, .inr (0, [.ref a0_signs, .ref a0_starts, .ref a0_lengths, .ref a0_piecesOfRuns, .ref a0_heads, .int v0_size, .int v0_runs, .int v0_pieces, .int v0_inRun]))]) (va_A [(a0, .inr (0, [.ref a0_signs, .ref a0_starts, .ref a0_lengths, .ref a0_piecesOfRuns, .ref a0_heads, .int v0_size, .int v0_runs, .int v0_pieces, .int v0_inRun]))] sz)) 0 0 (va_A [(a0, .inr (0, [.ref a0_signs, .ref a0_starts, .ref a0_lengths, .ref a0_piecesOfRuns, .ref a0_heads, .int v0_size, .int v0_runs, .int v0_pieces, .int v0_inRun]))] sz) := by
  refine Met.ofW (cc := cX1_hasRun) (maxL := 2) (ret := (some .boolean)) (by decide) rfl ?_
  intro p e s m args below meth c s₁ B hml hv
  obtain ⟨rfl, hsz, hP, hK, hD0⟩ := hv
  have hx := B.exec
  have hb := B.bytes
  have hr := B.returns
  have hts := atoms_spec (ws := wsX1_hasRun) B.pre
  have hown : s.vm.findClass RX1 = some m.cls := findClass_of_methodNamed B.named
  have hlocks := B.notSynchronized
  subst hsz
  have hD := hD0.self (sz := s.heap.size)
  generalize hAe : va_A [(a0, .inr (0, [.ref a0_signs, .ref a0_starts, .ref a0_lengths, .ref a0_piecesOfRuns, .ref a0_heads, .int v0_size, .int v0_runs, .int v0_pieces, .int v0_inRun]))] s.heap.size = A at hD ⊢
  have hA : ∀ q : Nat, s.heap.size ≤ q → A q := fun q h => by rw [← hAe]; exact Or.inr h
  have l32 := zat hts 1 (w := .fieldLink RX1 32 "TurnedWords$Cut" "runs" "I") rfl
  have hwX1 : ∀ w ∈ u_ws RX1 TX1 9, w ∈ wsX1_hasRun := fun w h => List.mem_cons_of_mem _ (List.mem_append_right _ h)
  have hl := lv_entry ([.ref a0, .int p1]) (n := 2) (Nat.le_of_ble_eq_true rfl)
  rw [lg_entry_eq]
  generalize (lg_sl ([.ref a0, .int p1]) ++ List.replicate (2 - (lg_sl ([.ref a0, .int p1])).length) Slot.unset).toArray = ls at hl ⊢
  have hl : lv_has ls 2 [(0, .ref a0), (1, .int p1)] := hl
  refine zStart (A := A) hP (fun Q0 H locs hQ hP hS => ?_)
  unfold fX1_hasRun at hf
  refine lv_iload_n hx hb dX1_hasRun_0 rfl (lv_at hl 1 rfl) ?_
  refine lv_if_lt (tgt := 16) hx hb dX1_hasRun_1 (by decide) (fun c_1 => ?_) (fun c_1 => ?_)
  · replace hf := ip c_1 hf
    refine lv_iconst (v := 0) hx hb dX1_hasRun_16 (by decide) ?_
    have he := Option.some.inj hf
    rw [hQ]
    exact W.zret (v := (0 : Int32)) hx hb hr (znb (Or.inl rfl)) (fun t ht hW => by rw [← he]; exact ⟨⟨(0 : Int32), (), rfl, ⟨rfl, Or.inl rfl⟩, by rw [ht]; exact hP, hD⟩, hS.F ht⟩) hS.2.2 dX1_hasRun_17
  · replace hf := im c_1 hf
    refine lv_iload_n hx hb dX1_hasRun_4 rfl (lv_at hl 1 rfl) ?_
    refine lv_aload_n hx hb dX1_hasRun_5 rfl (lv_at hl 0 rfl) ?_
    refine va_get (D := D.1) (ci := 0) (v := .int v0_runs) (C := RX1) (T := TX1) (N := 9) hx hb hts hwX1 hown hK.1 hP 0 rfl rfl 6 (by decide) l32 (fun _ h9 => h9) rfl dX1_hasRun_6 ?_
    refine lv_icmp_ge (tgt := 16) hx hb dX1_hasRun_9 (by decide) (fun c_2 => ?_) (fun c_2 => ?_)
    · replace hf := ip c_2 hf
      refine lv_iconst (v := 0) hx hb dX1_hasRun_16 (by decide) ?_
      have he := Option.some.inj hf
      rw [hQ]
      exact W.zret (v := (0 : Int32)) hx hb hr (znb (Or.inl rfl)) (fun t ht hW => by rw [← he]; exact ⟨⟨(0 : Int32), (), rfl, ⟨rfl, Or.inl rfl⟩, by rw [ht]; exact hP, hD⟩, hS.F ht⟩) hS.2.2 dX1_hasRun_17
    · replace hf := im c_2 hf
      refine lv_iconst (v := 1) hx hb dX1_hasRun_12 (by decide) ?_
      refine lv_goto (tgt := 17) hx hb dX1_hasRun_13 (by decide) ?_
      have he := Option.some.inj hf
      rw [hQ]
      exact W.zret (v := (1 : Int32)) hx hb hr (znb (Or.inr rfl)) (fun t ht hW => by rw [← he]; exact ⟨⟨(1 : Int32), (), rfl, ⟨rfl, Or.inr rfl⟩, by rw [ht]; exact hP, hD⟩, hS.F ht⟩) hS.2.2 dX1_hasRun_17
def fX1_lengthOf (v0_runs : Int32) (g0_lengths : Nat → Int32) (p1 : Int32) : Option (Int32) :=
  Option.bind (fX1_hasRun v0_runs p1) fun r1 =>
  if r1 = (0 : Int32) then
    some ((0 : Int32))
  else
    if p1 < 0 ∨ 13 ≤ (p1).toNatClampNeg then none else
    some ((g0_lengths (p1).toNatClampNeg))
set_option maxHeartbeats 4000000 in
set_option maxRecDepth 100000 in
theorem mX1_lengthOf (l : Launch) (D : zG) (a0 : Nat) (a0_signs : Nat) (a0_starts : Nat) (a0_lengths : Nat) (a0_piecesOfRuns : Nat) (a0_heads : Nat) (sz : Nat)  (v0_size : Int32) (v0_runs : Int32) (v0_pieces : Int32) (v0_inRun : Int32) (g0_lengths : Nat → Int32) (p1 : Int32) (res : Int32) (hf : fX1_lengthOf v0_runs g0_lengths p1 = some res) : Met l yX1_lengthOf wsX1_lengthOf ({ frames := 1, cells := 0, slots := 0, locals := 21 } : Room) (va_Pc [.ref a0, .int p1] (zW D sz [(a0, .inr (0, [.ref a0_signs, .ref a0_starts, .ref a0_lengths, .ref a0_piecesOfRuns, .ref a0_heads, .int v0_size, .int v0_runs, .int v0_pieces, .int v0_inRun])), (a0_lengths, .inl (D.2 1, 13, .inl g0_lengths))])) (va_Qi (fun r (_ : Unit) => r = res) (fun _ => zB D (va_A [(a0, .inr (0, [.ref a0_signs, .ref a0_starts, .ref a0_lengths, .ref a0_piecesOfRuns, .ref a0_heads, .int v0_size, .int v0_runs, .int v0_pieces, .int v0_inRun])), (a0_lengths, .inl (D.2 1, 13, .inl g0_lengths))] sz) [(a0, .inr (0, [.ref a0_signs, .ref a0_starts, .ref a0_lengths, .ref a0_piecesOfRuns, .ref a0_heads, .int v0_size, .int v0_runs, .int v0_pieces, .int v0_inRun])), (a0_lengths, .inl (D.2 1, 13, .inl g0_lengths))]) (va_A [(a0, .inr (0, [.ref a0_signs, .ref a0_starts, .ref a0_lengths, .ref a0_piecesOfRuns, .ref a0_heads, .int v0_size, .int v0_runs, .int v0_pieces, .int v0_inRun])), (a0_lengths, .inl (D.2 1, 13, .inl g0_lengths))] sz)) 0 0 (va_A [(a0, .inr (0, [.ref a0_signs, .ref a0_starts, .ref a0_lengths, .ref a0_piecesOfRuns, .ref a0_heads, .int v0_size, .int v0_runs, .int v0_pieces, .int v0_inRun])), (a0_lengths, .inl (D.2 1, 13, .inl g0_lengths))] sz) := by
  refine Met.ofW (cc := cX1_lengthOf) (maxL := 2) (ret := (some .int)) (by decide) rfl ?_
  intro p e s m args below meth c s₁ B hml hv
  obtain ⟨rfl, hsz, hP, hK, hD0⟩ := hv
  have hx := B.exec
  have hb := B.bytes
  have hr := B.returns
  have hts := atoms_spec (ws := wsX1_lengthOf) B.pre
  have hown : s.vm.findClass RX1 = some m.cls := findClass_of_methodNamed B.named
  have hlocks := B.notSynchronized
  subst hsz
  have hD := hD0.self (sz := s.heap.size)
  generalize hAe : va_A [(a0, .inr (0, [.ref a0_signs, .ref a0_starts, .ref a0_lengths, .ref a0_piecesOfRuns, .ref a0_heads, .int v0_size, .int v0_runs, .int v0_pieces, .int v0_inRun])), (a0_lengths, .inl (D.2 1, 13, .inl g0_lengths))] s.heap.size = A at hD ⊢
  have hA : ∀ q : Nat, s.heap.size ≤ q → A q := fun q h => by rw [← hAe]; exact Or.inr h
  have l18 := zat hts 1 (w := .fieldLink RX1 18 "TurnedWords$Cut" "lengths" "[I") rfl
  have hwX1 : ∀ w ∈ u_ws RX1 TX1 9, w ∈ wsX1_lengthOf := fun w h => List.mem_cons_of_mem _ (List.mem_append_right _ h)
  have hl := lv_entry ([.ref a0, .int p1]) (n := 2) (Nat.le_of_ble_eq_true rfl)
  rw [lg_entry_eq]
  generalize (lg_sl ([.ref a0, .int p1]) ++ List.replicate (2 - (lg_sl ([.ref a0, .int p1])).length) Slot.unset).toArray = ls at hl ⊢
  have hl : lv_has ls 2 [(0, .ref a0), (1, .int p1)] := hl
  refine zStart (A := A) hP (fun Q0 H locs hQ hP hS => ?_)
  unfold fX1_lengthOf at hf
  refine lv_aload_n hx hb dX1_lengthOf_0 rfl (lv_at hl 0 rfl) ?_
  refine lv_iload_n hx hb dX1_lengthOf_1 rfl (lv_at hl 1 rfl) ?_
  obtain ⟨r1, hr1, hf⟩ := bd hf
  refine zVz (As := [.int p1]) (rest := []) (ci := 0) (q0 := 0) (wn := [(a0, .inr (0, [.ref a0_signs, .ref a0_starts, .ref a0_lengths, .ref a0_piecesOfRuns, .ref a0_heads, .int v0_size, .int v0_runs, .int v0_pieces, .int v0_inRun])), (a0_lengths, .inl (D.2 1, 13, .inl g0_lengths))]) ⟨hx, hb, hml, hown, hts⟩ (mX1_hasRun l D a0 a0_signs a0_starts a0_lengths a0_piecesOfRuns a0_heads H.size v0_size v0_runs v0_pieces v0_inRun p1 r1 hr1) (cwV 1 hts gX1_lengthOf_X1_hasRun rfl rfl rfl (by decide +kernel) ⟨Nat.le_of_ble_eq_true rfl, Nat.le_of_ble_eq_true rfl⟩) hK hP hD hS hA [0] [1] [1, 0] rfl (by decide) rfl (by decide) (by decide) rfl (by decide) rfl rfl rfl hl.1 rfl (Nat.le_of_ble_eq_true rfl) dX1_lengthOf_2 ⟨Nat.zero_le _, Nat.zero_le _⟩ (fun H locs hb_2 hP hD hS => ?_)
  refine lv_if_eq (tgt := 17) hx hb dX1_lengthOf_5 (by decide) (fun c_3 => ?_) (fun c_3 => ?_)
  · replace hf := ip c_3 hf
    refine lv_iconst (v := 0) hx hb dX1_lengthOf_17 (by decide) ?_
    have he := Option.some.inj hf
    rw [hQ]
    exact W.iret (v := (0 : Int32)) hx hb hr (fun t ht hW => by rw [← he]; exact ⟨⟨(0 : Int32), (), rfl, rfl, by rw [ht]; exact hP, hD⟩, hS.F ht⟩) hS.2.2 dX1_lengthOf_18
  · replace hf := im c_3 hf
    refine lv_aload_n hx hb dX1_lengthOf_8 rfl (lv_at hl 0 rfl) ?_
    refine va_get (D := D.1) (ci := 0) (v := .ref a0_lengths) (C := RX1) (T := TX1) (N := 9) hx hb hts hwX1 hown hK.1 hP 0 rfl rfl 2 (by decide) l18 (fun _ h9 => h9) rfl dX1_lengthOf_9 ?_
    refine lv_iload_n hx hb dX1_lengthOf_12 rfl (lv_at hl 1 rfl) ?_
    obtain ⟨h_4, hf⟩ := gd hf
    refine va_iald hx hb hK.1 hP 1 1 rfl rfl h_4 dX1_lengthOf_13 ?_
    refine lv_goto (tgt := 18) hx hb dX1_lengthOf_14 (by decide) ?_
    have he := Option.some.inj hf
    rw [hQ]
    exact W.iret (v := (g0_lengths (p1).toNatClampNeg)) hx hb hr (fun t ht hW => by rw [← he]; exact ⟨⟨(g0_lengths (p1).toNatClampNeg), (), rfl, rfl, by rw [ht]; exact hP, hD⟩, hS.F ht⟩) hS.2.2 dX1_lengthOf_18
def fX1_pieceOf (v0_runs : Int32) (g0_piecesOfRuns : Nat → Int32) (p1 : Int32) : Option (Int32) :=
  Option.bind (fX1_hasRun v0_runs p1) fun r1 =>
  if r1 = (0 : Int32) then
    some ((-1 : Int32))
  else
    if p1 < 0 ∨ 13 ≤ (p1).toNatClampNeg then none else
    some ((g0_piecesOfRuns (p1).toNatClampNeg))
set_option maxHeartbeats 4000000 in
set_option maxRecDepth 100000 in
theorem mX1_pieceOf (l : Launch) (D : zG) (a0 : Nat) (a0_signs : Nat) (a0_starts : Nat) (a0_lengths : Nat) (a0_piecesOfRuns : Nat) (a0_heads : Nat) (sz : Nat)  (v0_size : Int32) (v0_runs : Int32) (v0_pieces : Int32) (v0_inRun : Int32) (g0_piecesOfRuns : Nat → Int32) (p1 : Int32) (res : Int32) (hf : fX1_pieceOf v0_runs g0_piecesOfRuns p1 = some res) : Met l yX1_pieceOf wsX1_pieceOf ({ frames := 1, cells := 0, slots := 0, locals := 21 } : Room) (va_Pc [.ref a0, .int p1] (zW D sz [(a0, .inr (0, [.ref a0_signs, .ref a0_starts, .ref a0_lengths, .ref a0_piecesOfRuns, .ref a0_heads, .int v0_size, .int v0_runs, .int v0_pieces, .int v0_inRun])), (a0_piecesOfRuns, .inl (D.2 1, 13, .inl g0_piecesOfRuns))])) (va_Qi (fun r (_ : Unit) => r = res) (fun _ => zB D (va_A [(a0, .inr (0, [.ref a0_signs, .ref a0_starts, .ref a0_lengths, .ref a0_piecesOfRuns, .ref a0_heads, .int v0_size, .int v0_runs, .int v0_pieces, .int v0_inRun])), (a0_piecesOfRuns, .inl (D.2 1, 13, .inl g0_piecesOfRuns))] sz) [(a0, .inr (0, [.ref a0_signs, .ref a0_starts, .ref a0_lengths, .ref a0_piecesOfRuns, .ref a0_heads, .int v0_size, .int v0_runs, .int v0_pieces, .int v0_inRun])), (a0_piecesOfRuns, .inl (D.2 1, 13, .inl g0_piecesOfRuns))]) (va_A [(a0, .inr (0, [.ref a0_signs, .ref a0_starts, .ref a0_lengths, .ref a0_piecesOfRuns, .ref a0_heads, .int v0_size, .int v0_runs, .int v0_pieces, .int v0_inRun])), (a0_piecesOfRuns, .inl (D.2 1, 13, .inl g0_piecesOfRuns))] sz)) 0 0 (va_A [(a0, .inr (0, [.ref a0_signs, .ref a0_starts, .ref a0_lengths, .ref a0_piecesOfRuns, .ref a0_heads, .int v0_size, .int v0_runs, .int v0_pieces, .int v0_inRun])), (a0_piecesOfRuns, .inl (D.2 1, 13, .inl g0_piecesOfRuns))] sz) := by
  refine Met.ofW (cc := cX1_pieceOf) (maxL := 2) (ret := (some .int)) (by decide) rfl ?_
  intro p e s m args below meth c s₁ B hml hv
  obtain ⟨rfl, hsz, hP, hK, hD0⟩ := hv
  have hx := B.exec
  have hb := B.bytes
  have hr := B.returns
  have hts := atoms_spec (ws := wsX1_pieceOf) B.pre
  have hown : s.vm.findClass RX1 = some m.cls := findClass_of_methodNamed B.named
  have hlocks := B.notSynchronized
  subst hsz
  have hD := hD0.self (sz := s.heap.size)
  generalize hAe : va_A [(a0, .inr (0, [.ref a0_signs, .ref a0_starts, .ref a0_lengths, .ref a0_piecesOfRuns, .ref a0_heads, .int v0_size, .int v0_runs, .int v0_pieces, .int v0_inRun])), (a0_piecesOfRuns, .inl (D.2 1, 13, .inl g0_piecesOfRuns))] s.heap.size = A at hD ⊢
  have hA : ∀ q : Nat, s.heap.size ≤ q → A q := fun q h => by rw [← hAe]; exact Or.inr h
  have l21 := zat hts 1 (w := .fieldLink RX1 21 "TurnedWords$Cut" "piecesOfRuns" "[I") rfl
  have hwX1 : ∀ w ∈ u_ws RX1 TX1 9, w ∈ wsX1_pieceOf := fun w h => List.mem_cons_of_mem _ (List.mem_append_right _ h)
  have hl := lv_entry ([.ref a0, .int p1]) (n := 2) (Nat.le_of_ble_eq_true rfl)
  rw [lg_entry_eq]
  generalize (lg_sl ([.ref a0, .int p1]) ++ List.replicate (2 - (lg_sl ([.ref a0, .int p1])).length) Slot.unset).toArray = ls at hl ⊢
  have hl : lv_has ls 2 [(0, .ref a0), (1, .int p1)] := hl
  refine zStart (A := A) hP (fun Q0 H locs hQ hP hS => ?_)
  unfold fX1_pieceOf at hf
  refine lv_aload_n hx hb dX1_pieceOf_0 rfl (lv_at hl 0 rfl) ?_
  refine lv_iload_n hx hb dX1_pieceOf_1 rfl (lv_at hl 1 rfl) ?_
  obtain ⟨r1, hr1, hf⟩ := bd hf
  refine zVz (As := [.int p1]) (rest := []) (ci := 0) (q0 := 0) (wn := [(a0, .inr (0, [.ref a0_signs, .ref a0_starts, .ref a0_lengths, .ref a0_piecesOfRuns, .ref a0_heads, .int v0_size, .int v0_runs, .int v0_pieces, .int v0_inRun])), (a0_piecesOfRuns, .inl (D.2 1, 13, .inl g0_piecesOfRuns))]) ⟨hx, hb, hml, hown, hts⟩ (mX1_hasRun l D a0 a0_signs a0_starts a0_lengths a0_piecesOfRuns a0_heads H.size v0_size v0_runs v0_pieces v0_inRun p1 r1 hr1) (cwV 1 hts gX1_pieceOf_X1_hasRun rfl rfl rfl (by decide +kernel) ⟨Nat.le_of_ble_eq_true rfl, Nat.le_of_ble_eq_true rfl⟩) hK hP hD hS hA [0] [1] [1, 0] rfl (by decide) rfl (by decide) (by decide) rfl (by decide) rfl rfl rfl hl.1 rfl (Nat.le_of_ble_eq_true rfl) dX1_pieceOf_2 ⟨Nat.zero_le _, Nat.zero_le _⟩ (fun H locs hb_2 hP hD hS => ?_)
  refine lv_if_eq (tgt := 17) hx hb dX1_pieceOf_5 (by decide) (fun c_3 => ?_) (fun c_3 => ?_)
  · replace hf := ip c_3 hf
    refine lv_iconst (v := -1) hx hb dX1_pieceOf_17 (by decide) ?_
    have he := Option.some.inj hf
    rw [hQ]
    exact W.iret (v := (-1 : Int32)) hx hb hr (fun t ht hW => by rw [← he]; exact ⟨⟨(-1 : Int32), (), rfl, rfl, by rw [ht]; exact hP, hD⟩, hS.F ht⟩) hS.2.2 dX1_pieceOf_18
  · replace hf := im c_3 hf
    refine lv_aload_n hx hb dX1_pieceOf_8 rfl (lv_at hl 0 rfl) ?_
    refine va_get (D := D.1) (ci := 0) (v := .ref a0_piecesOfRuns) (C := RX1) (T := TX1) (N := 9) hx hb hts hwX1 hown hK.1 hP 0 rfl rfl 3 (by decide) l21 (fun _ h9 => h9) rfl dX1_pieceOf_9 ?_
    refine lv_iload_n hx hb dX1_pieceOf_12 rfl (lv_at hl 1 rfl) ?_
    obtain ⟨h_4, hf⟩ := gd hf
    refine va_iald hx hb hK.1 hP 1 1 rfl rfl h_4 dX1_pieceOf_13 ?_
    refine lv_goto (tgt := 18) hx hb dX1_pieceOf_14 (by decide) ?_
    have he := Option.some.inj hf
    rw [hQ]
    exact W.iret (v := (g0_piecesOfRuns (p1).toNatClampNeg)) hx hb hr (fun t ht hW => by rw [← he]; exact ⟨⟨(g0_piecesOfRuns (p1).toNatClampNeg), (), rfl, rfl, by rw [ht]; exact hP, hD⟩, hS.F ht⟩) hS.2.2 dX1_pieceOf_18
def fX1_headOf (v0_runs : Int32) (g0_heads : Nat → Int64) (p1 : Int32) : Option (Int64) :=
  Option.bind (fX1_hasRun v0_runs p1) fun r1 =>
  if r1 = (0 : Int32) then
    some ((0 : Int64))
  else
    if p1 < 0 ∨ 13 ≤ (p1).toNatClampNeg then none else
    some ((g0_heads (p1).toNatClampNeg))
set_option maxHeartbeats 4000000 in
set_option maxRecDepth 100000 in
theorem mX1_headOf (l : Launch) (D : zG) (a0 : Nat) (a0_signs : Nat) (a0_starts : Nat) (a0_lengths : Nat) (a0_piecesOfRuns : Nat) (a0_heads : Nat) (sz : Nat)  (v0_size : Int32) (v0_runs : Int32) (v0_pieces : Int32) (v0_inRun : Int32) (g0_heads : Nat → Int64) (p1 : Int32) (res : Int64) (hf : fX1_headOf v0_runs g0_heads p1 = some res) : Met l yX1_headOf wsX1_headOf ({ frames := 1, cells := 0, slots := 0, locals := 21 } : Room) (va_Pc [.ref a0, .int p1] (zW D sz [(a0, .inr (0, [.ref a0_signs, .ref a0_starts, .ref a0_lengths, .ref a0_piecesOfRuns, .ref a0_heads, .int v0_size, .int v0_runs, .int v0_pieces, .int v0_inRun])), (a0_heads, .inl (D.2 2, 13, .inr (.inl g0_heads)))])) (va_Ql (fun r (_ : Unit) => r = res) (fun _ => zB D (va_A [(a0, .inr (0, [.ref a0_signs, .ref a0_starts, .ref a0_lengths, .ref a0_piecesOfRuns, .ref a0_heads, .int v0_size, .int v0_runs, .int v0_pieces, .int v0_inRun])), (a0_heads, .inl (D.2 2, 13, .inr (.inl g0_heads)))] sz) [(a0, .inr (0, [.ref a0_signs, .ref a0_starts, .ref a0_lengths, .ref a0_piecesOfRuns, .ref a0_heads, .int v0_size, .int v0_runs, .int v0_pieces, .int v0_inRun])), (a0_heads, .inl (D.2 2, 13, .inr (.inl g0_heads)))]) (va_A [(a0, .inr (0, [.ref a0_signs, .ref a0_starts, .ref a0_lengths, .ref a0_piecesOfRuns, .ref a0_heads, .int v0_size, .int v0_runs, .int v0_pieces, .int v0_inRun])), (a0_heads, .inl (D.2 2, 13, .inr (.inl g0_heads)))] sz)) 0 0 (va_A [(a0, .inr (0, [.ref a0_signs, .ref a0_starts, .ref a0_lengths, .ref a0_piecesOfRuns, .ref a0_heads, .int v0_size, .int v0_runs, .int v0_pieces, .int v0_inRun])), (a0_heads, .inl (D.2 2, 13, .inr (.inl g0_heads)))] sz) := by
  refine Met.ofW (cc := cX1_headOf) (maxL := 2) (ret := (some .long)) (by decide) rfl ?_
  intro p e s m args below meth c s₁ B hml hv
  obtain ⟨rfl, hsz, hP, hK, hD0⟩ := hv
  have hx := B.exec
  have hb := B.bytes
  have hr := B.returns
  have hts := atoms_spec (ws := wsX1_headOf) B.pre
  have hown : s.vm.findClass RX1 = some m.cls := findClass_of_methodNamed B.named
  have hlocks := B.notSynchronized
  subst hsz
  have hD := hD0.self (sz := s.heap.size)
  generalize hAe : va_A [(a0, .inr (0, [.ref a0_signs, .ref a0_starts, .ref a0_lengths, .ref a0_piecesOfRuns, .ref a0_heads, .int v0_size, .int v0_runs, .int v0_pieces, .int v0_inRun])), (a0_heads, .inl (D.2 2, 13, .inr (.inl g0_heads)))] s.heap.size = A at hD ⊢
  have hA : ∀ q : Nat, s.heap.size ≤ q → A q := fun q h => by rw [← hAe]; exact Or.inr h
  have l24 := zat hts 1 (w := .fieldLink RX1 24 "TurnedWords$Cut" "heads" "[J") rfl
  have hwX1 : ∀ w ∈ u_ws RX1 TX1 9, w ∈ wsX1_headOf := fun w h => List.mem_cons_of_mem _ (List.mem_append_right _ h)
  have hl := lv_entry ([.ref a0, .int p1]) (n := 2) (Nat.le_of_ble_eq_true rfl)
  rw [lg_entry_eq]
  generalize (lg_sl ([.ref a0, .int p1]) ++ List.replicate (2 - (lg_sl ([.ref a0, .int p1])).length) Slot.unset).toArray = ls at hl ⊢
  have hl : lv_has ls 2 [(0, .ref a0), (1, .int p1)] := hl
  refine zStart (A := A) hP (fun Q0 H locs hQ hP hS => ?_)
  unfold fX1_headOf at hf
  refine lv_aload_n hx hb dX1_headOf_0 rfl (lv_at hl 0 rfl) ?_
  refine lv_iload_n hx hb dX1_headOf_1 rfl (lv_at hl 1 rfl) ?_
  obtain ⟨r1, hr1, hf⟩ := bd hf
  refine zVz (As := [.int p1]) (rest := []) (ci := 0) (q0 := 0) (wn := [(a0, .inr (0, [.ref a0_signs, .ref a0_starts, .ref a0_lengths, .ref a0_piecesOfRuns, .ref a0_heads, .int v0_size, .int v0_runs, .int v0_pieces, .int v0_inRun])), (a0_heads, .inl (D.2 2, 13, .inr (.inl g0_heads)))]) ⟨hx, hb, hml, hown, hts⟩ (mX1_hasRun l D a0 a0_signs a0_starts a0_lengths a0_piecesOfRuns a0_heads H.size v0_size v0_runs v0_pieces v0_inRun p1 r1 hr1) (cwV 1 hts gX1_headOf_X1_hasRun rfl rfl rfl (by decide +kernel) ⟨Nat.le_of_ble_eq_true rfl, Nat.le_of_ble_eq_true rfl⟩) hK hP hD hS hA [0] [1] [1, 0] rfl (by decide) rfl (by decide) (by decide) rfl (by decide) rfl rfl rfl hl.1 rfl (Nat.le_of_ble_eq_true rfl) dX1_headOf_2 ⟨Nat.zero_le _, Nat.zero_le _⟩ (fun H locs hb_2 hP hD hS => ?_)
  refine lv_if_eq (tgt := 17) hx hb dX1_headOf_5 (by decide) (fun c_3 => ?_) (fun c_3 => ?_)
  · replace hf := ip c_3 hf
    refine lv_lconst (v := 0) hx hb dX1_headOf_17 (by decide) ?_
    have he := Option.some.inj hf
    rw [hQ]
    exact W.lret (v := (0 : Int64)) hx hb hr (fun t ht hW => by rw [← he]; exact ⟨⟨(0 : Int64), (), rfl, rfl, by rw [ht]; exact hP, hD⟩, hS.F ht⟩) hS.2.2 dX1_headOf_18
  · replace hf := im c_3 hf
    refine lv_aload_n hx hb dX1_headOf_8 rfl (lv_at hl 0 rfl) ?_
    refine va_get (D := D.1) (ci := 0) (v := .ref a0_heads) (C := RX1) (T := TX1) (N := 9) hx hb hts hwX1 hown hK.1 hP 0 rfl rfl 4 (by decide) l24 (fun _ h9 => h9) rfl dX1_headOf_9 ?_
    refine lv_iload_n hx hb dX1_headOf_12 rfl (lv_at hl 1 rfl) ?_
    obtain ⟨h_4, hf⟩ := gd hf
    refine va_lald hx hb hK.1 hP 1 2 rfl rfl h_4 dX1_headOf_13 ?_
    refine lv_goto (tgt := 18) hx hb dX1_headOf_14 (by decide) ?_
    have he := Option.some.inj hf
    rw [hQ]
    exact W.lret (v := (g0_heads (p1).toNatClampNeg)) hx hb hr (fun t ht hW => by rw [← he]; exact ⟨⟨(g0_heads (p1).toNatClampNeg), (), rfl, rfl, by rw [ht]; exact hP, hD⟩, hS.F ht⟩) hS.2.2 dX1_headOf_18
def fX1_signOf (v0_runs : Int32) (g0_signs : Nat → Int32) (g0_starts : Nat → Int32) (g0_lengths : Nat → Int32) (p1 : Int32) (p2 : Int32) : Option (Int32) :=
  if p2 < (0 : Int32) then
    some ((-1 : Int32))
  else
    Option.bind (fX1_lengthOf v0_runs g0_lengths p1) fun r2 =>
    if p2 < r2 then
      if p1 < 0 ∨ 13 ≤ (p1).toNatClampNeg then none else
      if ((g0_starts (p1).toNatClampNeg) + p2) < 0 ∨ 13 ≤ (((g0_starts (p1).toNatClampNeg) + p2)).toNatClampNeg then none else
      some ((g0_signs (((g0_starts (p1).toNatClampNeg) + p2)).toNatClampNeg))
    else
      some ((-1 : Int32))
set_option maxHeartbeats 4000000 in
set_option maxRecDepth 100000 in
theorem mX1_signOf (l : Launch) (D : zG) (a0 : Nat) (a0_signs : Nat) (a0_starts : Nat) (a0_lengths : Nat) (a0_piecesOfRuns : Nat) (a0_heads : Nat) (sz : Nat)  (v0_size : Int32) (v0_runs : Int32) (v0_pieces : Int32) (v0_inRun : Int32) (g0_signs : Nat → Int32) (g0_starts : Nat → Int32) (g0_lengths : Nat → Int32) (p1 : Int32) (p2 : Int32) (res : Int32) (hf : fX1_signOf v0_runs g0_signs g0_starts g0_lengths p1 p2 = some res) : Met l yX1_signOf wsX1_signOf ({ frames := 2, cells := 0, slots := 0, locals := 42 } : Room) (va_Pc [.ref a0, .int p1, .int p2] (zW D sz [(a0, .inr (0, [.ref a0_signs, .ref a0_starts, .ref a0_lengths, .ref a0_piecesOfRuns, .ref a0_heads, .int v0_size, .int v0_runs, .int v0_pieces, .int v0_inRun])), (a0_signs, .inl (D.2 1, 13, .inl g0_signs)), (a0_starts, .inl (D.2 1, 13, .inl g0_starts)), (a0_lengths, .inl (D.2 1, 13, .inl g0_lengths))])) (va_Qi (fun r (_ : Unit) => r = res) (fun _ => zB D (va_A [(a0, .inr (0, [.ref a0_signs, .ref a0_starts, .ref a0_lengths, .ref a0_piecesOfRuns, .ref a0_heads, .int v0_size, .int v0_runs, .int v0_pieces, .int v0_inRun])), (a0_signs, .inl (D.2 1, 13, .inl g0_signs)), (a0_starts, .inl (D.2 1, 13, .inl g0_starts)), (a0_lengths, .inl (D.2 1, 13, .inl g0_lengths))] sz) [(a0, .inr (0, [.ref a0_signs, .ref a0_starts, .ref a0_lengths, .ref a0_piecesOfRuns, .ref a0_heads, .int v0_size, .int v0_runs, .int v0_pieces, .int v0_inRun])), (a0_signs, .inl (D.2 1, 13, .inl g0_signs)), (a0_starts, .inl (D.2 1, 13, .inl g0_starts)), (a0_lengths, .inl (D.2 1, 13, .inl g0_lengths))]) (va_A [(a0, .inr (0, [.ref a0_signs, .ref a0_starts, .ref a0_lengths, .ref a0_piecesOfRuns, .ref a0_heads, .int v0_size, .int v0_runs, .int v0_pieces, .int v0_inRun])), (a0_signs, .inl (D.2 1, 13, .inl g0_signs)), (a0_starts, .inl (D.2 1, 13, .inl g0_starts)), (a0_lengths, .inl (D.2 1, 13, .inl g0_lengths))] sz)) 0 0 (va_A [(a0, .inr (0, [.ref a0_signs, .ref a0_starts, .ref a0_lengths, .ref a0_piecesOfRuns, .ref a0_heads, .int v0_size, .int v0_runs, .int v0_pieces, .int v0_inRun])), (a0_signs, .inl (D.2 1, 13, .inl g0_signs)), (a0_starts, .inl (D.2 1, 13, .inl g0_starts)), (a0_lengths, .inl (D.2 1, 13, .inl g0_lengths))] sz) := by
  refine Met.ofW (cc := cX1_signOf) (maxL := 3) (ret := (some .int)) (by decide) rfl ?_
  intro p e s m args below meth c s₁ B hml hv
  obtain ⟨rfl, hsz, hP, hK, hD0⟩ := hv
  have hx := B.exec
  have hb := B.bytes
  have hr := B.returns
  have hts := atoms_spec (ws := wsX1_signOf) B.pre
  have hown : s.vm.findClass RX1 = some m.cls := findClass_of_methodNamed B.named
  have hlocks := B.notSynchronized
  subst hsz
  have hD := hD0.self (sz := s.heap.size)
  generalize hAe : va_A [(a0, .inr (0, [.ref a0_signs, .ref a0_starts, .ref a0_lengths, .ref a0_piecesOfRuns, .ref a0_heads, .int v0_size, .int v0_runs, .int v0_pieces, .int v0_inRun])), (a0_signs, .inl (D.2 1, 13, .inl g0_signs)), (a0_starts, .inl (D.2 1, 13, .inl g0_starts)), (a0_lengths, .inl (D.2 1, 13, .inl g0_lengths))] s.heap.size = A at hD ⊢
  have hA : ∀ q : Nat, s.heap.size ≤ q → A q := fun q h => by rw [← hAe]; exact Or.inr h
  have l9 := zat hts 1 (w := .fieldLink RX1 9 "TurnedWords$Cut" "signs" "[I") rfl
  have l15 := zat hts 2 (w := .fieldLink RX1 15 "TurnedWords$Cut" "starts" "[I") rfl
  have hwX1 : ∀ w ∈ u_ws RX1 TX1 9, w ∈ wsX1_signOf := fun w h => List.mem_cons_of_mem _ (List.mem_append_right _ h)
  have hl := lv_entry ([.ref a0, .int p1, .int p2]) (n := 3) (Nat.le_of_ble_eq_true rfl)
  rw [lg_entry_eq]
  generalize (lg_sl ([.ref a0, .int p1, .int p2]) ++ List.replicate (3 - (lg_sl ([.ref a0, .int p1, .int p2])).length) Slot.unset).toArray = ls at hl ⊢
  have hl : lv_has ls 3 [(0, .ref a0), (1, .int p1), (2, .int p2)] := hl
  refine zStart (A := A) hP (fun Q0 H locs hQ hP hS => ?_)
  unfold fX1_signOf at hf
  refine lv_iload_n hx hb dX1_signOf_0 rfl (lv_at hl 2 rfl) ?_
  refine lv_if_lt (tgt := 13) hx hb dX1_signOf_1 (by decide) (fun c_1 => ?_) (fun c_1 => ?_)
  · replace hf := ip c_1 hf
    refine lv_iconst (v := -1) hx hb dX1_signOf_13 (by decide) ?_
    refine lv_goto (tgt := 30) hx hb dX1_signOf_14 (by decide) ?_
    have he := Option.some.inj hf
    rw [hQ]
    exact W.iret (v := (-1 : Int32)) hx hb hr (fun t ht hW => by rw [← he]; exact ⟨⟨(-1 : Int32), (), rfl, rfl, by rw [ht]; exact hP, hD⟩, hS.F ht⟩) hS.2.2 dX1_signOf_30
  · replace hf := im c_1 hf
    refine lv_iload_n hx hb dX1_signOf_4 rfl (lv_at hl 2 rfl) ?_
    refine lv_aload_n hx hb dX1_signOf_5 rfl (lv_at hl 0 rfl) ?_
    refine lv_iload_n hx hb dX1_signOf_6 rfl (lv_at hl 1 rfl) ?_
    obtain ⟨r2, hr2, hf⟩ := bd hf
    refine zVi (As := [.int p1]) (rest := [.int p2]) (ci := 0) (q0 := 0) (wn := [(a0, .inr (0, [.ref a0_signs, .ref a0_starts, .ref a0_lengths, .ref a0_piecesOfRuns, .ref a0_heads, .int v0_size, .int v0_runs, .int v0_pieces, .int v0_inRun])), (a0_signs, .inl (D.2 1, 13, .inl g0_signs)), (a0_starts, .inl (D.2 1, 13, .inl g0_starts)), (a0_lengths, .inl (D.2 1, 13, .inl g0_lengths))]) ⟨hx, hb, hml, hown, hts⟩ (mX1_lengthOf l D a0 a0_signs a0_starts a0_lengths a0_piecesOfRuns a0_heads H.size v0_size v0_runs v0_pieces v0_inRun g0_lengths p1 r2 hr2) (cwV 1 hts gX1_signOf_X1_lengthOf rfl rfl rfl (by decide +kernel) ⟨Nat.le_of_ble_eq_true rfl, Nat.le_of_ble_eq_true rfl⟩) hK hP hD hS hA [0, 3] [1, 2] [2, 0, 1, 3] rfl (by decide) rfl (by decide) (by decide) rfl (by decide) rfl rfl rfl hl.1 rfl (Nat.le_of_ble_eq_true rfl) dX1_signOf_7 ⟨Nat.zero_le _, Nat.zero_le _⟩ (fun H locs hP hD hS => ?_)
    refine lv_icmp_lt (tgt := 17) hx hb dX1_signOf_10 (by decide) (fun c_3 => ?_) (fun c_3 => ?_)
    · replace hf := ip c_3 hf
      refine lv_aload_n hx hb dX1_signOf_17 rfl (lv_at hl 0 rfl) ?_
      refine va_get (D := D.1) (ci := 0) (v := .ref a0_signs) (C := RX1) (T := TX1) (N := 9) hx hb hts hwX1 hown hK.1 hP 0 rfl rfl 0 (by decide) l9 (fun _ h9 => h9) rfl dX1_signOf_18 ?_
      refine lv_aload_n hx hb dX1_signOf_21 rfl (lv_at hl 0 rfl) ?_
      refine va_get (D := D.1) (ci := 0) (v := .ref a0_starts) (C := RX1) (T := TX1) (N := 9) hx hb hts hwX1 hown hK.1 hP 0 rfl rfl 1 (by decide) l15 (fun _ h9 => h9) rfl dX1_signOf_22 ?_
      refine lv_iload_n hx hb dX1_signOf_25 rfl (lv_at hl 1 rfl) ?_
      obtain ⟨h_4, hf⟩ := gd hf
      refine va_iald hx hb hK.1 hP 2 1 rfl rfl h_4 dX1_signOf_26 ?_
      refine lv_iload_n hx hb dX1_signOf_27 rfl (lv_at hl 2 rfl) ?_
      refine lv_iadd hx hb dX1_signOf_28 ?_
      obtain ⟨h_5, hf⟩ := gd hf
      refine va_iald hx hb hK.1 hP 1 1 rfl rfl h_5 dX1_signOf_29 ?_
      have he := Option.some.inj hf
      rw [hQ]
      exact W.iret (v := (g0_signs (((g0_starts (p1).toNatClampNeg) + p2)).toNatClampNeg)) hx hb hr (fun t ht hW => by rw [← he]; exact ⟨⟨(g0_signs (((g0_starts (p1).toNatClampNeg) + p2)).toNatClampNeg), (), rfl, rfl, by rw [ht]; exact hP, hD⟩, hS.F ht⟩) hS.2.2 dX1_signOf_30
    · replace hf := im c_3 hf
      refine lv_iconst (v := -1) hx hb dX1_signOf_13 (by decide) ?_
      refine lv_goto (tgt := 30) hx hb dX1_signOf_14 (by decide) ?_
      have he := Option.some.inj hf
      rw [hQ]
      exact W.iret (v := (-1 : Int32)) hx hb hr (fun t ht hW => by rw [← he]; exact ⟨⟨(-1 : Int32), (), rfl, rfl, by rw [ht]; exact hP, hD⟩, hS.F ht⟩) hS.2.2 dX1_signOf_30
def fX2_isThere (v0_kind : Int32) : Option (Int32) :=
  if v0_kind = (0 : Int32) then
    some ((0 : Int32))
  else
    some ((1 : Int32))
set_option maxHeartbeats 4000000 in
set_option maxRecDepth 100000 in
theorem mX2_isThere (l : Launch) (D : zG) (a0 : Nat) (sz : Nat)  (v0_kind : Int32) (v0_place : Int32)  (res : Int32) (hf : fX2_isThere v0_kind = some res) : Met l yX2_isThere wsX2_isThere ({ frames := 0, cells := 0, slots := 0, locals := 0 } : Room) (va_Pc [.ref a0] (zW D sz [(a0, .inr (1, [.int v0_kind, .int v0_place]))])) (va_Qi (fun r (_ : Unit) => r = res ∧ (r = 0 ∨ r = 1)) (fun _ => zB D (va_A [(a0, .inr (1, [.int v0_kind, .int v0_place]))] sz) [(a0, .inr (1, [.int v0_kind, .int v0_place]))]) (va_A [(a0, .inr (1, [.int v0_kind, .int v0_place]))] sz)) 0 0 (va_A [(a0, .inr (1, [.int v0_kind, .int v0_place]))] sz) := by
  refine Met.ofW (cc := cX2_isThere) (maxL := 1) (ret := (some .boolean)) (by decide) rfl ?_
  intro p e s m args below meth c s₁ B hml hv
  obtain ⟨rfl, hsz, hP, hK, hD0⟩ := hv
  have hx := B.exec
  have hb := B.bytes
  have hr := B.returns
  have hts := atoms_spec (ws := wsX2_isThere) B.pre
  have hown : s.vm.findClass RX2 = some m.cls := findClass_of_methodNamed B.named
  have hlocks := B.notSynchronized
  subst hsz
  have hD := hD0.self (sz := s.heap.size)
  generalize hAe : va_A [(a0, .inr (1, [.int v0_kind, .int v0_place]))] s.heap.size = A at hD ⊢
  have hA : ∀ q : Nat, s.heap.size ≤ q → A q := fun q h => by rw [← hAe]; exact Or.inr h
  have l11 := zat hts 1 (w := .fieldLink RX2 11 "TurnedWords$Fault" "kind" "I") rfl
  have hwX2 : ∀ w ∈ u_ws RX2 TX2 2, w ∈ wsX2_isThere := fun w h => List.mem_cons_of_mem _ (List.mem_append_right _ h)
  have hl := lv_entry ([.ref a0]) (n := 1) (Nat.le_of_ble_eq_true rfl)
  rw [lg_entry_eq]
  generalize (lg_sl ([.ref a0]) ++ List.replicate (1 - (lg_sl ([.ref a0])).length) Slot.unset).toArray = ls at hl ⊢
  have hl : lv_has ls 1 [(0, .ref a0)] := hl
  refine zStart (A := A) hP (fun Q0 H locs hQ hP hS => ?_)
  unfold fX2_isThere at hf
  refine lv_aload_n hx hb dX2_isThere_0 rfl (lv_at hl 0 rfl) ?_
  refine va_get (D := D.1) (ci := 1) (v := .int v0_kind) (C := RX2) (T := TX2) (N := 2) hx hb hts hwX2 hown hK.1 hP 0 rfl rfl 0 (by decide) l11 (fun _ h9 => h9) rfl dX2_isThere_1 ?_
  refine lv_if_eq (tgt := 11) hx hb dX2_isThere_4 (by decide) (fun c_1 => ?_) (fun c_1 => ?_)
  · replace hf := ip c_1 hf
    refine lv_iconst (v := 0) hx hb dX2_isThere_11 (by decide) ?_
    have he := Option.some.inj hf
    rw [hQ]
    exact W.zret (v := (0 : Int32)) hx hb hr (znb (Or.inl rfl)) (fun t ht hW => by rw [← he]; exact ⟨⟨(0 : Int32), (), rfl, ⟨rfl, Or.inl rfl⟩, by rw [ht]; exact hP, hD⟩, hS.F ht⟩) hS.2.2 dX2_isThere_12
  · replace hf := im c_1 hf
    refine lv_iconst (v := 1) hx hb dX2_isThere_7 (by decide) ?_
    refine lv_goto (tgt := 12) hx hb dX2_isThere_8 (by decide) ?_
    have he := Option.some.inj hf
    rw [hQ]
    exact W.zret (v := (1 : Int32)) hx hb hr (znb (Or.inr rfl)) (fun t ht hW => by rw [← he]; exact ⟨⟨(1 : Int32), (), rfl, ⟨rfl, Or.inr rfl⟩, by rw [ht]; exact hP, hD⟩, hS.F ht⟩) hS.2.2 dX2_isThere_12
def fX2_set_15 (p1 : Int32) (p2 : Int32) (y1 : Int32) (v0_kind : Int32) (v0_place : Int32) : Option (Int32 × Int32) :=
  some (v0_kind, y1)
def fX2_set (v0_kind : Int32) (v0_place : Int32) (p1 : Int32) (p2 : Int32) : Option (Int32 × Int32) :=
  if p1 = (0 : Int32) then
    fX2_set_15 p1 p2 (-1 : Int32) p1 v0_place
  else
    fX2_set_15 p1 p2 p2 p1 v0_place
set_option maxHeartbeats 4000000 in
set_option maxRecDepth 100000 in
theorem mX2_set (l : Launch) (D : zG) (a0 : Nat) (sz : Nat)  (v0_kind : Int32) (v0_place : Int32) (p1 : Int32) (p2 : Int32) (res : Int32 × Int32) (hf : fX2_set v0_kind v0_place p1 p2 = some res) : Met l yX2_set wsX2_set ({ frames := 0, cells := 0, slots := 0, locals := 0 } : Room) (va_Pc [.ref a0, .int p1, .int p2] (zW D sz [(a0, .inr (1, [.int v0_kind, .int v0_place]))])) (va_Qv (fun (_ : Unit) => True) (fun _ => zB D (va_A [(a0, .inr (1, [.int v0_kind, .int v0_place]))] sz) [(a0, .inr (1, [.int res.1, .int res.2]))]) (va_A [(a0, .inr (1, [.int v0_kind, .int v0_place]))] sz)) 0 0 (va_A [(a0, .inr (1, [.int v0_kind, .int v0_place]))] sz) := by
  refine Met.ofW (cc := cX2_set) (maxL := 3) (ret := none) (by decide) rfl ?_
  intro p e s m args below meth c s₁ B hml hv
  obtain ⟨rfl, hsz, hP, hK, hD0⟩ := hv
  have hx := B.exec
  have hb := B.bytes
  have hr := B.returns
  have hts := atoms_spec (ws := wsX2_set) B.pre
  have hown : s.vm.findClass RX2 = some m.cls := findClass_of_methodNamed B.named
  have hlocks := B.notSynchronized
  subst hsz
  have hD := hD0.self (sz := s.heap.size)
  generalize hAe : va_A [(a0, .inr (1, [.int v0_kind, .int v0_place]))] s.heap.size = A at hD ⊢
  have hA : ∀ q : Nat, s.heap.size ≤ q → A q := fun q h => by rw [← hAe]; exact Or.inr h
  have l11 := zat hts 1 (w := .fieldLink RX2 11 "TurnedWords$Fault" "kind" "I") rfl
  have l15 := zat hts 2 (w := .fieldLink RX2 15 "TurnedWords$Fault" "place" "I") rfl
  have hwX2 : ∀ w ∈ u_ws RX2 TX2 2, w ∈ wsX2_set := fun w h => List.mem_cons_of_mem _ (List.mem_append_right _ h)
  have hl := lv_entry ([.ref a0, .int p1, .int p2]) (n := 3) (Nat.le_of_ble_eq_true rfl)
  rw [lg_entry_eq]
  generalize (lg_sl ([.ref a0, .int p1, .int p2]) ++ List.replicate (3 - (lg_sl ([.ref a0, .int p1, .int p2])).length) Slot.unset).toArray = ls at hl ⊢
  have hl : lv_has ls 3 [(0, .ref a0), (1, .int p1), (2, .int p2)] := hl
  refine zStart (A := A) hP (fun Q0 H locs hQ hP hS => ?_)
  have k15 : ∀ (y1 : Int32) (v0_kind : Int32) (v0_place : Int32) (H : Heap) (locs : List Loc) (ls : Array Slot), fX2_set_15 p1 p2 y1 v0_kind v0_place = some res → va_P D.1 vwCl [(a0, .inr (1, [.int v0_kind, .int v0_place]))] H → va_D A [(a0, .inr (1, [.int v0_kind, .int v0_place]))] → va_S A s.heap H locs → lv_has ls 3 [] → W p l e (headSpec wsX2_set ({ frames := 0, cells := 0, slots := 0, locals := 0 } : Room)).room s m ([.ref a0, .int p1, .int p2] : List Value).toArray below meth c H locs 0 0 Q0 (F0 m 15 ls [.int y1, .ref a0]) := by
    intro y1 v0_kind v0_place H locs ls hf hP hD hS hl
    unfold fX2_set_15 at hf
    refine va_put (D := D.1) (ci := 1) (v := .int y1) (ty := .int) (C := RX2) (T := TX2) (N := 2) hx hb hts hwX2 tyX2 tyX2_ok nmX2 hown hK.1 hP hD hS 0 rfl rfl 1 (by decide) l15 (fun _ h9 => h9) rfl (by decide +kernel) rfl rfl (Nat.le_of_ble_eq_true rfl) dX2_set_15 (fun H locs hP hD hS => ?_)
    have hP : va_P D.1 vwCl [(a0, .inr (1, [.int v0_kind, .int y1]))] H := hP
    have hD : va_D A [(a0, .inr (1, [.int v0_kind, .int y1]))] := hD
    have he := Option.some.inj hf
    rw [hQ]
    exact W.vret hx hb hr (fun t ht hW => by rw [← he]; exact ⟨⟨(), rfl, trivial, by rw [ht]; exact hP, hD⟩, hS.F ht⟩) hS.2.2 dX2_set_18
  unfold fX2_set at hf
  refine lv_aload_n hx hb dX2_set_0 rfl (lv_at hl 0 rfl) ?_
  refine lv_iload_n hx hb dX2_set_1 rfl (lv_at hl 1 rfl) ?_
  refine va_put (D := D.1) (ci := 1) (v := .int p1) (ty := .int) (C := RX2) (T := TX2) (N := 2) hx hb hts hwX2 tyX2 tyX2_ok nmX2 hown hK.1 hP hD hS 0 rfl rfl 0 (by decide) l11 (fun _ h9 => h9) rfl (by decide +kernel) rfl rfl (Nat.le_of_ble_eq_true rfl) dX2_set_2 (fun H locs hP hD hS => ?_)
  have hP : va_P D.1 vwCl [(a0, .inr (1, [.int p1, .int v0_place]))] H := hP
  have hD : va_D A [(a0, .inr (1, [.int p1, .int v0_place]))] := hD
  refine lv_aload_n hx hb dX2_set_5 rfl (lv_at hl 0 rfl) ?_
  refine lv_iload_n hx hb dX2_set_6 rfl (lv_at hl 1 rfl) ?_
  refine lv_if_ne (tgt := 14) hx hb dX2_set_7 (by decide) (fun c_1 => ?_) (fun c_1 => ?_)
  · replace hf := im c_1 hf
    refine lv_iload_n hx hb dX2_set_14 rfl (lv_at hl 2 rfl) ?_
    exact k15 p2 p1 v0_place H locs ls hf hP hD hS (lv_sub hl [] rfl)
  · replace hf := ip c_1 hf
    refine lv_iconst (v := -1) hx hb dX2_set_10 (by decide) ?_
    refine lv_goto (tgt := 15) hx hb dX2_set_11 (by decide) ?_
    exact k15 (-1 : Int32) p1 v0_place H locs ls hf hP hD hS (lv_sub hl [] rfl)
def fX7_clear (v0_size : Int32) : Option (Int32) :=
  some ((0 : Int32))
set_option maxHeartbeats 4000000 in
set_option maxRecDepth 100000 in
theorem mX7_clear (l : Launch) (D : zG) (a0 : Nat) (a0_rows : Nat) (sz : Nat)  (v0_size : Int32)  (res : Int32) (hf : fX7_clear v0_size = some res) : Met l yX7_clear wsX7_clear ({ frames := 0, cells := 0, slots := 0, locals := 0 } : Room) (va_Pc [.ref a0] (zW D sz [(a0, .inr (5, [.ref a0_rows, .int v0_size]))])) (va_Qv (fun (_ : Unit) => True) (fun _ => zB D (va_A [(a0, .inr (5, [.ref a0_rows, .int v0_size]))] sz) [(a0, .inr (5, [.ref a0_rows, .int res]))]) (va_A [(a0, .inr (5, [.ref a0_rows, .int v0_size]))] sz)) 0 0 (va_A [(a0, .inr (5, [.ref a0_rows, .int v0_size]))] sz) := by
  refine Met.ofW (cc := cX7_clear) (maxL := 1) (ret := none) (by decide) rfl ?_
  intro p e s m args below meth c s₁ B hml hv
  obtain ⟨rfl, hsz, hP, hK, hD0⟩ := hv
  have hx := B.exec
  have hb := B.bytes
  have hr := B.returns
  have hts := atoms_spec (ws := wsX7_clear) B.pre
  have hown : s.vm.findClass RX7 = some m.cls := findClass_of_methodNamed B.named
  have hlocks := B.notSynchronized
  subst hsz
  have hD := hD0.self (sz := s.heap.size)
  generalize hAe : va_A [(a0, .inr (5, [.ref a0_rows, .int v0_size]))] s.heap.size = A at hD ⊢
  have hA : ∀ q : Nat, s.heap.size ≤ q → A q := fun q h => by rw [← hAe]; exact Or.inr h
  have l24 := zat hts 1 (w := .fieldLink RX7 24 "TurnedWords$Rising" "size" "I") rfl
  have hwX7 : ∀ w ∈ u_ws RX7 TX7 2, w ∈ wsX7_clear := fun w h => List.mem_cons_of_mem _ (List.mem_append_right _ h)
  have hl := lv_entry ([.ref a0]) (n := 1) (Nat.le_of_ble_eq_true rfl)
  rw [lg_entry_eq]
  generalize (lg_sl ([.ref a0]) ++ List.replicate (1 - (lg_sl ([.ref a0])).length) Slot.unset).toArray = ls at hl ⊢
  have hl : lv_has ls 1 [(0, .ref a0)] := hl
  refine zStart (A := A) hP (fun Q0 H locs hQ hP hS => ?_)
  unfold fX7_clear at hf
  refine lv_aload_n hx hb dX7_clear_0 rfl (lv_at hl 0 rfl) ?_
  refine lv_iconst (v := 0) hx hb dX7_clear_1 (by decide) ?_
  refine va_put (D := D.1) (ci := 5) (v := .int (0 : Int32)) (ty := .int) (C := RX7) (T := TX7) (N := 2) hx hb hts hwX7 tyX7 tyX7_ok nmX7 hown hK.1 hP hD hS 0 rfl rfl 1 (by decide) l24 (fun _ h9 => h9) rfl (by decide +kernel) rfl rfl (Nat.le_of_ble_eq_true rfl) dX7_clear_2 (fun H locs hP hD hS => ?_)
  have hP : va_P D.1 vwCl [(a0, .inr (5, [.ref a0_rows, .int (0 : Int32)]))] H := hP
  have hD : va_D A [(a0, .inr (5, [.ref a0_rows, .int (0 : Int32)]))] := hD
  have he := Option.some.inj hf
  rw [hQ]
  exact W.vret hx hb hr (fun t ht hW => by rw [← he]; exact ⟨⟨(), rfl, trivial, by rw [ht]; exact hP, hD⟩, hS.F ht⟩) hS.2.2 dX7_clear_5
def fX7_size (v0_size : Int32) : Option (Int32) :=
  some (v0_size)
set_option maxHeartbeats 4000000 in
set_option maxRecDepth 100000 in
theorem mX7_size (l : Launch) (D : zG) (a0 : Nat) (a0_rows : Nat) (sz : Nat)  (v0_size : Int32)  (res : Int32) (hf : fX7_size v0_size = some res) : Met l yX7_size wsX7_size ({ frames := 0, cells := 0, slots := 0, locals := 0 } : Room) (va_Pc [.ref a0] (zW D sz [(a0, .inr (5, [.ref a0_rows, .int v0_size]))])) (va_Qi (fun r (_ : Unit) => r = res) (fun _ => zB D (va_A [(a0, .inr (5, [.ref a0_rows, .int v0_size]))] sz) [(a0, .inr (5, [.ref a0_rows, .int v0_size]))]) (va_A [(a0, .inr (5, [.ref a0_rows, .int v0_size]))] sz)) 0 0 (va_A [(a0, .inr (5, [.ref a0_rows, .int v0_size]))] sz) := by
  refine Met.ofW (cc := cX7_size) (maxL := 1) (ret := (some .int)) (by decide) rfl ?_
  intro p e s m args below meth c s₁ B hml hv
  obtain ⟨rfl, hsz, hP, hK, hD0⟩ := hv
  have hx := B.exec
  have hb := B.bytes
  have hr := B.returns
  have hts := atoms_spec (ws := wsX7_size) B.pre
  have hown : s.vm.findClass RX7 = some m.cls := findClass_of_methodNamed B.named
  have hlocks := B.notSynchronized
  subst hsz
  have hD := hD0.self (sz := s.heap.size)
  generalize hAe : va_A [(a0, .inr (5, [.ref a0_rows, .int v0_size]))] s.heap.size = A at hD ⊢
  have hA : ∀ q : Nat, s.heap.size ≤ q → A q := fun q h => by rw [← hAe]; exact Or.inr h
  have l24 := zat hts 1 (w := .fieldLink RX7 24 "TurnedWords$Rising" "size" "I") rfl
  have hwX7 : ∀ w ∈ u_ws RX7 TX7 2, w ∈ wsX7_size := fun w h => List.mem_cons_of_mem _ (List.mem_append_right _ h)
  have hl := lv_entry ([.ref a0]) (n := 1) (Nat.le_of_ble_eq_true rfl)
  rw [lg_entry_eq]
  generalize (lg_sl ([.ref a0]) ++ List.replicate (1 - (lg_sl ([.ref a0])).length) Slot.unset).toArray = ls at hl ⊢
  have hl : lv_has ls 1 [(0, .ref a0)] := hl
  refine zStart (A := A) hP (fun Q0 H locs hQ hP hS => ?_)
  unfold fX7_size at hf
  refine lv_aload_n hx hb dX7_size_0 rfl (lv_at hl 0 rfl) ?_
  refine va_get (D := D.1) (ci := 5) (v := .int v0_size) (C := RX7) (T := TX7) (N := 2) hx hb hts hwX7 hown hK.1 hP 0 rfl rfl 1 (by decide) l24 (fun _ h9 => h9) rfl dX7_size_1 ?_
  have he := Option.some.inj hf
  rw [hQ]
  exact W.iret (v := v0_size) hx hb hr (fun t ht hW => by rw [← he]; exact ⟨⟨v0_size, (), rfl, rfl, by rw [ht]; exact hP, hD⟩, hS.F ht⟩) hS.2.2 dX7_size_4
def fX7_hasNumber (v0_size : Int32) (p1 : Int32) : Option (Int32) :=
  if p1 < (0 : Int32) then
    some ((0 : Int32))
  else
    if v0_size ≤ p1 then
      some ((0 : Int32))
    else
      some ((1 : Int32))
set_option maxHeartbeats 4000000 in
set_option maxRecDepth 100000 in
theorem mX7_hasNumber (l : Launch) (D : zG) (a0 : Nat) (a0_rows : Nat) (sz : Nat)  (v0_size : Int32) (p1 : Int32) (res : Int32) (hf : fX7_hasNumber v0_size p1 = some res) : Met l yX7_hasNumber wsX7_hasNumber ({ frames := 0, cells := 0, slots := 0, locals := 0 } : Room) (va_Pc [.ref a0, .int p1] (zW D sz [(a0, .inr (5, [.ref a0_rows, .int v0_size]))])) (va_Qi (fun r (_ : Unit) => r = res ∧ (r = 0 ∨ r = 1)) (fun _ => zB D (va_A [(a0, .inr (5, [.ref a0_rows, .int v0_size]))] sz) [(a0, .inr (5, [.ref a0_rows, .int v0_size]))]) (va_A [(a0, .inr (5, [.ref a0_rows, .int v0_size]))] sz)) 0 0 (va_A [(a0, .inr (5, [.ref a0_rows, .int v0_size]))] sz) := by
  refine Met.ofW (cc := cX7_hasNumber) (maxL := 2) (ret := (some .boolean)) (by decide) rfl ?_
  intro p e s m args below meth c s₁ B hml hv
  obtain ⟨rfl, hsz, hP, hK, hD0⟩ := hv
  have hx := B.exec
  have hb := B.bytes
  have hr := B.returns
  have hts := atoms_spec (ws := wsX7_hasNumber) B.pre
  have hown : s.vm.findClass RX7 = some m.cls := findClass_of_methodNamed B.named
  have hlocks := B.notSynchronized
  subst hsz
  have hD := hD0.self (sz := s.heap.size)
  generalize hAe : va_A [(a0, .inr (5, [.ref a0_rows, .int v0_size]))] s.heap.size = A at hD ⊢
  have hA : ∀ q : Nat, s.heap.size ≤ q → A q := fun q h => by rw [← hAe]; exact Or.inr h
  have l24 := zat hts 1 (w := .fieldLink RX7 24 "TurnedWords$Rising" "size" "I") rfl
  have hwX7 : ∀ w ∈ u_ws RX7 TX7 2, w ∈ wsX7_hasNumber := fun w h => List.mem_cons_of_mem _ (List.mem_append_right _ h)
  have hl := lv_entry ([.ref a0, .int p1]) (n := 2) (Nat.le_of_ble_eq_true rfl)
  rw [lg_entry_eq]
  generalize (lg_sl ([.ref a0, .int p1]) ++ List.replicate (2 - (lg_sl ([.ref a0, .int p1])).length) Slot.unset).toArray = ls at hl ⊢
  have hl : lv_has ls 2 [(0, .ref a0), (1, .int p1)] := hl
  refine zStart (A := A) hP (fun Q0 H locs hQ hP hS => ?_)
  unfold fX7_hasNumber at hf
  refine lv_iload_n hx hb dX7_hasNumber_0 rfl (lv_at hl 1 rfl) ?_
  refine lv_if_lt (tgt := 16) hx hb dX7_hasNumber_1 (by decide) (fun c_1 => ?_) (fun c_1 => ?_)
  · replace hf := ip c_1 hf
    refine lv_iconst (v := 0) hx hb dX7_hasNumber_16 (by decide) ?_
    have he := Option.some.inj hf
    rw [hQ]
    exact W.zret (v := (0 : Int32)) hx hb hr (znb (Or.inl rfl)) (fun t ht hW => by rw [← he]; exact ⟨⟨(0 : Int32), (), rfl, ⟨rfl, Or.inl rfl⟩, by rw [ht]; exact hP, hD⟩, hS.F ht⟩) hS.2.2 dX7_hasNumber_17
  · replace hf := im c_1 hf
    refine lv_iload_n hx hb dX7_hasNumber_4 rfl (lv_at hl 1 rfl) ?_
    refine lv_aload_n hx hb dX7_hasNumber_5 rfl (lv_at hl 0 rfl) ?_
    refine va_get (D := D.1) (ci := 5) (v := .int v0_size) (C := RX7) (T := TX7) (N := 2) hx hb hts hwX7 hown hK.1 hP 0 rfl rfl 1 (by decide) l24 (fun _ h9 => h9) rfl dX7_hasNumber_6 ?_
    refine lv_icmp_ge (tgt := 16) hx hb dX7_hasNumber_9 (by decide) (fun c_2 => ?_) (fun c_2 => ?_)
    · replace hf := ip c_2 hf
      refine lv_iconst (v := 0) hx hb dX7_hasNumber_16 (by decide) ?_
      have he := Option.some.inj hf
      rw [hQ]
      exact W.zret (v := (0 : Int32)) hx hb hr (znb (Or.inl rfl)) (fun t ht hW => by rw [← he]; exact ⟨⟨(0 : Int32), (), rfl, ⟨rfl, Or.inl rfl⟩, by rw [ht]; exact hP, hD⟩, hS.F ht⟩) hS.2.2 dX7_hasNumber_17
    · replace hf := im c_2 hf
      refine lv_iconst (v := 1) hx hb dX7_hasNumber_12 (by decide) ?_
      refine lv_goto (tgt := 17) hx hb dX7_hasNumber_13 (by decide) ?_
      have he := Option.some.inj hf
      rw [hQ]
      exact W.zret (v := (1 : Int32)) hx hb hr (znb (Or.inr rfl)) (fun t ht hW => by rw [← he]; exact ⟨⟨(1 : Int32), (), rfl, ⟨rfl, Or.inr rfl⟩, by rw [ht]; exact hP, hD⟩, hS.F ht⟩) hS.2.2 dX7_hasNumber_17
def fX7_at (n0_rows : Nat) (v0_size : Int32) (g0_rows : Nat → Int64) (p1 : Int32) : Option (Int64) :=
  Option.bind (fX7_hasNumber v0_size p1) fun r1 =>
  if r1 = (0 : Int32) then
    some ((0 : Int64))
  else
    if p1 < 0 ∨ n0_rows ≤ (p1).toNatClampNeg then none else
    some ((g0_rows (p1).toNatClampNeg))
set_option maxHeartbeats 4000000 in
set_option maxRecDepth 100000 in
theorem mX7_at (l : Launch) (D : zG) (a0 : Nat) (a0_rows : Nat) (sz : Nat) (n0_rows : Nat) (v0_size : Int32) (g0_rows : Nat → Int64) (p1 : Int32) (res : Int64) (hf : fX7_at n0_rows v0_size g0_rows p1 = some res) : Met l yX7_at wsX7_at ({ frames := 1, cells := 0, slots := 0, locals := 21 } : Room) (va_Pc [.ref a0, .int p1] (zW D sz [(a0, .inr (5, [.ref a0_rows, .int v0_size])), (a0_rows, .inl (D.2 2, n0_rows, .inr (.inl g0_rows)))])) (va_Ql (fun r (_ : Unit) => r = res) (fun _ => zB D (va_A [(a0, .inr (5, [.ref a0_rows, .int v0_size])), (a0_rows, .inl (D.2 2, n0_rows, .inr (.inl g0_rows)))] sz) [(a0, .inr (5, [.ref a0_rows, .int v0_size])), (a0_rows, .inl (D.2 2, n0_rows, .inr (.inl g0_rows)))]) (va_A [(a0, .inr (5, [.ref a0_rows, .int v0_size])), (a0_rows, .inl (D.2 2, n0_rows, .inr (.inl g0_rows)))] sz)) 0 0 (va_A [(a0, .inr (5, [.ref a0_rows, .int v0_size])), (a0_rows, .inl (D.2 2, n0_rows, .inr (.inl g0_rows)))] sz) := by
  refine Met.ofW (cc := cX7_at) (maxL := 2) (ret := (some .long)) (by decide) rfl ?_
  intro p e s m args below meth c s₁ B hml hv
  obtain ⟨rfl, hsz, hP, hK, hD0⟩ := hv
  have hx := B.exec
  have hb := B.bytes
  have hr := B.returns
  have hts := atoms_spec (ws := wsX7_at) B.pre
  have hown : s.vm.findClass RX7 = some m.cls := findClass_of_methodNamed B.named
  have hlocks := B.notSynchronized
  subst hsz
  have hD := hD0.self (sz := s.heap.size)
  generalize hAe : va_A [(a0, .inr (5, [.ref a0_rows, .int v0_size])), (a0_rows, .inl (D.2 2, n0_rows, .inr (.inl g0_rows)))] s.heap.size = A at hD ⊢
  have hA : ∀ q : Nat, s.heap.size ≤ q → A q := fun q h => by rw [← hAe]; exact Or.inr h
  have l18 := zat hts 1 (w := .fieldLink RX7 18 "TurnedWords$Rising" "rows" "[J") rfl
  have hwX7 : ∀ w ∈ u_ws RX7 TX7 2, w ∈ wsX7_at := fun w h => List.mem_cons_of_mem _ (List.mem_append_right _ h)
  have hl := lv_entry ([.ref a0, .int p1]) (n := 2) (Nat.le_of_ble_eq_true rfl)
  rw [lg_entry_eq]
  generalize (lg_sl ([.ref a0, .int p1]) ++ List.replicate (2 - (lg_sl ([.ref a0, .int p1])).length) Slot.unset).toArray = ls at hl ⊢
  have hl : lv_has ls 2 [(0, .ref a0), (1, .int p1)] := hl
  refine zStart (A := A) hP (fun Q0 H locs hQ hP hS => ?_)
  unfold fX7_at at hf
  refine lv_aload_n hx hb dX7_at_0 rfl (lv_at hl 0 rfl) ?_
  refine lv_iload_n hx hb dX7_at_1 rfl (lv_at hl 1 rfl) ?_
  obtain ⟨r1, hr1, hf⟩ := bd hf
  refine zVz (As := [.int p1]) (rest := []) (ci := 5) (q0 := 0) (wn := [(a0, .inr (5, [.ref a0_rows, .int v0_size])), (a0_rows, .inl (D.2 2, n0_rows, .inr (.inl g0_rows)))]) ⟨hx, hb, hml, hown, hts⟩ (mX7_hasNumber l D a0 a0_rows H.size v0_size p1 r1 hr1) (cwV 1 hts gX7_at_X7_hasNumber rfl rfl rfl (by decide +kernel) ⟨Nat.le_of_ble_eq_true rfl, Nat.le_of_ble_eq_true rfl⟩) hK hP hD hS hA [0] [1] [1, 0] rfl (by decide) rfl (by decide) (by decide) rfl (by decide) rfl rfl rfl hl.1 rfl (Nat.le_of_ble_eq_true rfl) dX7_at_2 ⟨Nat.zero_le _, Nat.zero_le _⟩ (fun H locs hb_2 hP hD hS => ?_)
  refine lv_if_eq (tgt := 17) hx hb dX7_at_5 (by decide) (fun c_3 => ?_) (fun c_3 => ?_)
  · replace hf := ip c_3 hf
    refine lv_lconst (v := 0) hx hb dX7_at_17 (by decide) ?_
    have he := Option.some.inj hf
    rw [hQ]
    exact W.lret (v := (0 : Int64)) hx hb hr (fun t ht hW => by rw [← he]; exact ⟨⟨(0 : Int64), (), rfl, rfl, by rw [ht]; exact hP, hD⟩, hS.F ht⟩) hS.2.2 dX7_at_18
  · replace hf := im c_3 hf
    refine lv_aload_n hx hb dX7_at_8 rfl (lv_at hl 0 rfl) ?_
    refine va_get (D := D.1) (ci := 5) (v := .ref a0_rows) (C := RX7) (T := TX7) (N := 2) hx hb hts hwX7 hown hK.1 hP 0 rfl rfl 0 (by decide) l18 (fun _ h9 => h9) rfl dX7_at_9 ?_
    refine lv_iload_n hx hb dX7_at_12 rfl (lv_at hl 1 rfl) ?_
    obtain ⟨h_4, hf⟩ := gd hf
    refine va_lald hx hb hK.1 hP 1 2 rfl rfl h_4 dX7_at_13 ?_
    refine lv_goto (tgt := 18) hx hb dX7_at_14 (by decide) ?_
    have he := Option.some.inj hf
    rw [hQ]
    exact W.lret (v := (g0_rows (p1).toNatClampNeg)) hx hb hr (fun t ht hW => by rw [← he]; exact ⟨⟨(g0_rows (p1).toNatClampNeg), (), rfl, rfl, by rw [ht]; exact hP, hD⟩, hS.F ht⟩) hS.2.2 dX7_at_18
def fX8_codeAt (p0 : Int64) (p2 : Int32) : Option (Int32) :=
  if p2 < (0 : Int32) then
    some ((0 : Int32))
  else
    if p2 < (8 : Int32) then
      some (((Int64.toInt32 (p0 >>> (Int32.toInt64 ((5 : Int32) * ((7 : Int32) - p2)) &&& 63))) &&& (31 : Int32)))
    else
      some ((0 : Int32))
set_option maxHeartbeats 4000000 in
set_option maxRecDepth 100000 in
theorem mX8_codeAt (l : Launch) (D : zG)  (sz : Nat)   (p0 : Int64) (p2 : Int32) (res : Int32) (hf : fX8_codeAt p0 p2 = some res) : Met l yX8_codeAt wsX8_codeAt ({ frames := 0, cells := 0, slots := 0, locals := 0 } : Room) (va_Pc [.long p0, .int p2] (zW D sz [])) (va_Qi (fun r (_ : Unit) => r = res) (fun _ => zB D (va_A [] sz) []) (va_A [] sz)) 0 0 (va_A [] sz) := by
  refine Met.ofW (cc := cX8_codeAt) (maxL := 3) (ret := (some .int)) (by decide) rfl ?_
  intro p e s m args below meth c s₁ B hml hv
  obtain ⟨rfl, hsz, hP, hK, hD0⟩ := hv
  have hx := B.exec
  have hb := B.bytes
  have hr := B.returns
  have hts := atoms_spec (ws := wsX8_codeAt) B.pre
  have hown : s.vm.findClass RX8 = some m.cls := findClass_of_methodNamed B.named
  have hlocks := B.notSynchronized
  subst hsz
  have hD := hD0.self (sz := s.heap.size)
  generalize hAe : va_A [] s.heap.size = A at hD ⊢
  have hA : ∀ q : Nat, s.heap.size ≤ q → A q := fun q h => by rw [← hAe]; exact Or.inr h
  have hl := lv_entry ([.long p0, .int p2]) (n := 3) (Nat.le_of_ble_eq_true rfl)
  rw [lg_entry_eq]
  generalize (lg_sl ([.long p0, .int p2]) ++ List.replicate (3 - (lg_sl ([.long p0, .int p2])).length) Slot.unset).toArray = ls at hl ⊢
  have hl : lv_has ls 3 [(0, .long p0), (2, .int p2)] := hl
  refine zStart (A := A) hP (fun Q0 H locs hQ hP hS => ?_)
  unfold fX8_codeAt at hf
  refine lv_iload_n hx hb dX8_codeAt_0 rfl (lv_at hl 1 rfl) ?_
  refine lv_if_lt (tgt := 10) hx hb dX8_codeAt_1 (by decide) (fun c_1 => ?_) (fun c_1 => ?_)
  · replace hf := ip c_1 hf
    refine lv_iconst (v := 0) hx hb dX8_codeAt_10 (by decide) ?_
    have he := Option.some.inj hf
    rw [hQ]
    exact W.iret (v := (0 : Int32)) hx hb hr (fun t ht hW => by rw [← he]; exact ⟨⟨(0 : Int32), (), rfl, rfl, by rw [ht]; exact hP, hD⟩, hS.F ht⟩) hS.2.2 dX8_codeAt_11
  · replace hf := im c_1 hf
    refine lv_iload_n hx hb dX8_codeAt_4 rfl (lv_at hl 1 rfl) ?_
    refine lv_bipush (v := 8) hx hb dX8_codeAt_5 (by decide) ?_
    refine lv_icmp_lt (tgt := 12) hx hb dX8_codeAt_7 (by decide) (fun c_2 => ?_) (fun c_2 => ?_)
    · replace hf := ip c_2 hf
      refine lv_lload_n hx hb dX8_codeAt_12 rfl (lv_at hl 0 rfl) ?_
      refine lv_iconst (v := 5) hx hb dX8_codeAt_13 (by decide) ?_
      refine lv_bipush (v := 7) hx hb dX8_codeAt_14 (by decide) ?_
      refine lv_iload_n hx hb dX8_codeAt_16 rfl (lv_at hl 1 rfl) ?_
      refine lv_isub hx hb dX8_codeAt_17 ?_
      refine lv_imul hx hb dX8_codeAt_18 ?_
      refine lv_lshr hx hb dX8_codeAt_19 rfl ?_
      refine lv_l2i hx hb dX8_codeAt_20 rfl ?_
      refine lv_bipush (v := 31) hx hb dX8_codeAt_21 (by decide) ?_
      refine lv_iand hx hb dX8_codeAt_23 ?_
      have he := Option.some.inj hf
      rw [hQ]
      exact W.iret (v := ((Int64.toInt32 (p0 >>> (Int32.toInt64 ((5 : Int32) * ((7 : Int32) - p2)) &&& 63))) &&& (31 : Int32))) hx hb hr (fun t ht hW => by rw [← he]; exact ⟨⟨((Int64.toInt32 (p0 >>> (Int32.toInt64 ((5 : Int32) * ((7 : Int32) - p2)) &&& 63))) &&& (31 : Int32)), (), rfl, rfl, by rw [ht]; exact hP, hD⟩, hS.F ht⟩) hS.2.2 dX8_codeAt_24
    · replace hf := im c_2 hf
      refine lv_iconst (v := 0) hx hb dX8_codeAt_10 (by decide) ?_
      have he := Option.some.inj hf
      rw [hQ]
      exact W.iret (v := (0 : Int32)) hx hb hr (fun t ht hW => by rw [← he]; exact ⟨⟨(0 : Int32), (), rfl, rfl, by rw [ht]; exact hP, hD⟩, hS.F ht⟩) hS.2.2 dX8_codeAt_11
def fX8_length_2 (N : Nat) (p0 : Int64) : Nat → Int32 → Option (Int32)
  | 0, _ => none
  | K + 1, x2 =>
    if (8 : Int32) ≤ x2 then
      some (x2)
    else
      Option.bind (fX8_codeAt p0 x2) fun r2 =>
      if r2 = (0 : Int32) then
        some (x2)
      else
        (fX8_length_2 N p0 K) (x2 + (1 : Int32))
def fX8_length (N : Nat) (p0 : Int64) : Option (Int32) :=
  fX8_length_2 N p0 N (0 : Int32)
set_option maxHeartbeats 4000000 in
set_option maxRecDepth 100000 in
theorem mX8_length (l : Launch) (D : zG)  (sz : Nat)   (p0 : Int64) (N : Nat) (res : Int32) (hf : fX8_length N p0 = some res) : Met l yX8_length wsX8_length ({ frames := 1, cells := 0, slots := 0, locals := 22 } : Room) (va_Pc [.long p0] (zW D sz [])) (va_Qi (fun r (_ : Unit) => r = res) (fun _ => zB D (va_A [] sz) []) (va_A [] sz)) 0 0 (va_A [] sz) := by
  refine Met.ofW (cc := cX8_length) (maxL := 3) (ret := (some .int)) (by decide) rfl ?_
  intro p e s m args below meth c s₁ B hml hv
  obtain ⟨rfl, hsz, hP, hK, hD0⟩ := hv
  have hx := B.exec
  have hb := B.bytes
  have hr := B.returns
  have hts := atoms_spec (ws := wsX8_length) B.pre
  have hown : s.vm.findClass RX8 = some m.cls := findClass_of_methodNamed B.named
  have hlocks := B.notSynchronized
  subst hsz
  have hD := hD0.self (sz := s.heap.size)
  generalize hAe : va_A [] s.heap.size = A at hD ⊢
  have hA : ∀ q : Nat, s.heap.size ≤ q → A q := fun q h => by rw [← hAe]; exact Or.inr h
  have hl := lv_entry ([.long p0]) (n := 3) (Nat.le_of_ble_eq_true rfl)
  rw [lg_entry_eq]
  generalize (lg_sl ([.long p0]) ++ List.replicate (3 - (lg_sl ([.long p0])).length) Slot.unset).toArray = ls at hl ⊢
  have hl : lv_has ls 3 [(0, .long p0)] := hl
  refine zStart (A := A) hP (fun Q0 H locs hQ hP hS => ?_)
  have k2 : ∀ K : Nat, ∀ (x2 : Int32) (H : Heap) (locs : List Loc) (ls : Array Slot), fX8_length_2 N p0 K x2 = some res → va_P D.1 vwCl [] H → va_D A [] → va_S A s.heap H locs → lv_has ls 3 [(0, .long p0), (2, .int x2)] → W p l e (headSpec wsX8_length ({ frames := 1, cells := 0, slots := 0, locals := 22 } : Room)).room s m ([.long p0] : List Value).toArray below meth c H locs 0 0 Q0 (F0 m 2 ls []) := by
    intro K
    induction K with
    | zero =>
      intro x2 H locs ls hf
      rw [fX8_length_2] at hf
      cases hf
    | succ K ih =>
      intro x2 H locs ls hf hP hD hS hl
      rw [fX8_length_2] at hf
      refine lv_iload_n hx hb dX8_length_2 rfl (lv_at hl 1 rfl) ?_
      refine lv_bipush (v := 8) hx hb dX8_length_3 (by decide) ?_
      refine lv_icmp_ge (tgt := 22) hx hb dX8_length_5 (by decide) (fun c_1 => ?_) (fun c_1 => ?_)
      · replace hf := ip c_1 hf
        refine lv_iload_n hx hb dX8_length_22 rfl (lv_at hl 1 rfl) ?_
        have he := Option.some.inj hf
        rw [hQ]
        exact W.iret (v := x2) hx hb hr (fun t ht hW => by rw [← he]; exact ⟨⟨x2, (), rfl, rfl, by rw [ht]; exact hP, hD⟩, hS.F ht⟩) hS.2.2 dX8_length_23
      · replace hf := im c_1 hf
        refine lv_lload_n hx hb dX8_length_8 rfl (lv_at hl 0 rfl) ?_
        refine lv_iload_n hx hb dX8_length_9 rfl (lv_at hl 1 rfl) ?_
        obtain ⟨r2, hr2, hf⟩ := bd hf
        refine zSi (As := [.long p0, .int x2]) (rest := []) (wn := []) ⟨hx, hb, hml, hown, hts⟩ (mX8_codeAt l D H.size p0 x2 r2 hr2) (va_cwS 2 hts gX8_length_X8_codeAt rfl rfl rfl (by decide +kernel) ⟨Nat.le_of_ble_eq_true rfl, Nat.le_of_ble_eq_true rfl⟩) hK hP hD hS hA [] [] [] rfl (by decide) rfl (by decide) (by decide) rfl (by decide) rfl hl.1 rfl (Nat.le_of_ble_eq_true rfl) dX8_length_10 ⟨Nat.zero_le _, Nat.zero_le _⟩ (fun H locs hP hD hS => ?_)
        refine lv_if_eq (tgt := 22) hx hb dX8_length_13 (by decide) (fun c_3 => ?_) (fun c_3 => ?_)
        · replace hf := ip c_3 hf
          refine lv_iload_n hx hb dX8_length_22 rfl (lv_at hl 1 rfl) ?_
          have he := Option.some.inj hf
          rw [hQ]
          exact W.iret (v := x2) hx hb hr (fun t ht hW => by rw [← he]; exact ⟨⟨x2, (), rfl, rfl, by rw [ht]; exact hP, hD⟩, hS.F ht⟩) hS.2.2 dX8_length_23
        · replace hf := im c_3 hf
          refine lv_iinc (v := (x2 + (1 : Int32))) (lv' := [(2, .int (x2 + (1 : Int32))), (0, .long p0)]) hx hb dX8_length_16 hl (k := 1) rfl rfl (by decide) rfl (fun ls hl => ?_)
          refine lv_goto (tgt := 2) hx hb dX8_length_19 (by decide) ?_
          exact ih (x2 + (1 : Int32)) H locs ls hf hP hD hS (lv_sub hl [1, 0] rfl)
  unfold fX8_length at hf
  refine lv_iconst (v := 0) hx hb dX8_length_0 (by decide) ?_
  refine lv_istore_n (lv' := [(2, .int (0 : Int32)), (0, .long p0)]) hx hb dX8_length_1 rfl hl (by decide) rfl (fun ls hl => ?_)
  exact k2 N (0 : Int32) H locs ls hf hP hD hS (lv_sub hl [1, 0] rfl)
def fX8_head (p0 : Int64) (p2 : Int32) : Option (Int64) :=
  some (((p0 >>> (Int32.toInt64 ((5 : Int32) * ((8 : Int32) - (if (0 : Int32) < (if (8 : Int32) < p2 then (8 : Int32) else p2) then (if (8 : Int32) < p2 then (8 : Int32) else p2) else (0 : Int32)))) &&& 63)) <<< (Int32.toInt64 ((5 : Int32) * ((8 : Int32) - (if (0 : Int32) < (if (8 : Int32) < p2 then (8 : Int32) else p2) then (if (8 : Int32) < p2 then (8 : Int32) else p2) else (0 : Int32)))) &&& 63)))
set_option maxHeartbeats 4000000 in
set_option maxRecDepth 100000 in
theorem mX8_head (l : Launch) (D : zG)  (sz : Nat)   (p0 : Int64) (p2 : Int32) (res : Int64) (hf : fX8_head p0 p2 = some res) : Met l yX8_head wsX8_head ({ frames := 1, cells := 0, slots := 0, locals := 16 } : Room) (va_Pc [.long p0, .int p2] (zW D sz [])) (va_Ql (fun r (_ : Unit) => r = res) (fun _ => zB D (va_A [] sz) []) (va_A [] sz)) 0 0 (va_A [] sz) := by
  refine Met.ofW (cc := cX8_head) (maxL := 4) (ret := (some .long)) (by decide) rfl ?_
  intro p e s m args below meth c s₁ B hml hv
  obtain ⟨rfl, hsz, hP, hK, hD0⟩ := hv
  have hx := B.exec
  have hb := B.bytes
  have hr := B.returns
  have hts := atoms_spec (ws := wsX8_head) B.pre
  have hown : s.vm.findClass RX8 = some m.cls := findClass_of_methodNamed B.named
  have hlocks := B.notSynchronized
  subst hsz
  have hD := hD0.self (sz := s.heap.size)
  generalize hAe : va_A [] s.heap.size = A at hD ⊢
  have hA : ∀ q : Nat, s.heap.size ≤ q → A q := fun q h => by rw [← hAe]; exact Or.inr h
  have l26 := zat hts 1 (w := .methodLink RX8 26 Lib.Math.min.name) rfl
  have hstmin := zat hts 2 (w := .static Lib.Math.min.name) rfl
  have hinM := zat hts 3 (w := .initialized "java/lang/Math") rfl
  have hcdmin := zat hts 4 (w := .code Lib.Math.min.name Lib.Math.min.code 2 (some .int)) rfl
  have l32 := zat hts 5 (w := .methodLink RX8 32 Lib.Math.max.name) rfl
  have hstmax := zat hts 6 (w := .static Lib.Math.max.name) rfl
  have hcdmax := zat hts 7 (w := .code Lib.Math.max.name Lib.Math.max.code 2 (some .int)) rfl
  have hl := lv_entry ([.long p0, .int p2]) (n := 4) (Nat.le_of_ble_eq_true rfl)
  rw [lg_entry_eq]
  generalize (lg_sl ([.long p0, .int p2]) ++ List.replicate (4 - (lg_sl ([.long p0, .int p2])).length) Slot.unset).toArray = ls at hl ⊢
  have hl : lv_has ls 4 [(0, .long p0), (2, .int p2)] := hl
  refine zStart (A := A) hP (fun Q0 H locs hQ hP hS => ?_)
  unfold fX8_head at hf
  refine lv_iconst (v := 5) hx hb dX8_head_0 (by decide) ?_
  refine lv_bipush (v := 8) hx hb dX8_head_1 (by decide) ?_
  refine lv_iconst (v := 0) hx hb dX8_head_3 (by decide) ?_
  refine lv_iload_n hx hb dX8_head_4 rfl (lv_at hl 1 rfl) ?_
  refine lv_bipush (v := 8) hx hb dX8_head_5 (by decide) ?_
  refine va_mmin hx hb (hml.trans hl.1.symm) hown l26 hstmin hinM hcdmin (Nat.le_of_ble_eq_true rfl) (Nat.le_of_ble_eq_true rfl) (Nat.zero_le _) (Nat.zero_le _) dX8_head_7 ?_
  refine va_mmax hx hb (hml.trans hl.1.symm) hown l32 hstmax hinM hcdmax (Nat.le_of_ble_eq_true rfl) (Nat.le_of_ble_eq_true rfl) (Nat.zero_le _) (Nat.zero_le _) dX8_head_10 ?_
  refine lv_isub hx hb dX8_head_13 ?_
  refine lv_imul hx hb dX8_head_14 ?_
  refine lv_istore_n (lv' := [(3, .int ((5 : Int32) * ((8 : Int32) - (if (0 : Int32) < (if (8 : Int32) < p2 then (8 : Int32) else p2) then (if (8 : Int32) < p2 then (8 : Int32) else p2) else (0 : Int32))))), (0, .long p0), (2, .int p2)]) hx hb dX8_head_15 rfl hl (by decide) rfl (fun ls hl => ?_)
  refine lv_lload_n hx hb dX8_head_16 rfl (lv_at hl 1 rfl) ?_
  refine lv_iload_n hx hb dX8_head_17 rfl (lv_at hl 0 rfl) ?_
  refine lv_lshr hx hb dX8_head_18 rfl ?_
  refine lv_iload_n hx hb dX8_head_19 rfl (lv_at hl 0 rfl) ?_
  refine lv_lshl hx hb dX8_head_20 rfl ?_
  have he := Option.some.inj hf
  rw [hQ]
  exact W.lret (v := ((p0 >>> (Int32.toInt64 ((5 : Int32) * ((8 : Int32) - (if (0 : Int32) < (if (8 : Int32) < p2 then (8 : Int32) else p2) then (if (8 : Int32) < p2 then (8 : Int32) else p2) else (0 : Int32)))) &&& 63)) <<< (Int32.toInt64 ((5 : Int32) * ((8 : Int32) - (if (0 : Int32) < (if (8 : Int32) < p2 then (8 : Int32) else p2) then (if (8 : Int32) < p2 then (8 : Int32) else p2) else (0 : Int32)))) &&& 63))) hx hb hr (fun t ht hW => by rw [← he]; exact ⟨⟨((p0 >>> (Int32.toInt64 ((5 : Int32) * ((8 : Int32) - (if (0 : Int32) < (if (8 : Int32) < p2 then (8 : Int32) else p2) then (if (8 : Int32) < p2 then (8 : Int32) else p2) else (0 : Int32)))) &&& 63)) <<< (Int32.toInt64 ((5 : Int32) * ((8 : Int32) - (if (0 : Int32) < (if (8 : Int32) < p2 then (8 : Int32) else p2) then (if (8 : Int32) < p2 then (8 : Int32) else p2) else (0 : Int32)))) &&& 63)), (), rfl, rfl, by rw [ht]; exact hP, hD⟩, hS.F ht⟩) hS.2.2 dX8_head_21
def fX8_turned (N : Nat) (p0 : Int64) (p2 : Int32) : Option (Int64) :=
  Option.bind (fX8_length N p0) fun r1 =>
  Option.bind (fX8_put ((p0 <<< (Int32.toInt64 ((5 : Int32) * p2) &&& 63)) &&& (1099511627775 : Int64)) (r1 - p2) (36 : Int32)) fun r2 =>
  Option.bind (fX8_head p0 p2) fun r3 =>
  some ((r2 ||| (r3 >>> (Int32.toInt64 ((5 : Int32) * ((r1 - p2) + (1 : Int32))) &&& 63))))
set_option maxHeartbeats 4000000 in
set_option maxRecDepth 100000 in
theorem mX8_turned (l : Launch) (D : zG)  (sz : Nat)   (p0 : Int64) (p2 : Int32) (N : Nat) (res : Int64) (hf : fX8_turned N p0 p2 = some res) : Met l yX8_turned wsX8_turned ({ frames := 2, cells := 0, slots := 0, locals := 44 } : Room) (va_Pc [.long p0, .int p2] (zW D sz [])) (va_Ql (fun r (_ : Unit) => r = res) (fun _ => zB D (va_A [] sz) []) (va_A [] sz)) 0 0 (va_A [] sz) := by
  refine Met.ofW (cc := cX8_turned) (maxL := 6) (ret := (some .long)) (by decide) rfl ?_
  intro p e s m args below meth c s₁ B hml hv
  obtain ⟨rfl, hsz, hP, hK, hD0⟩ := hv
  have hx := B.exec
  have hb := B.bytes
  have hr := B.returns
  have hts := atoms_spec (ws := wsX8_turned) B.pre
  have hown : s.vm.findClass RX8 = some m.cls := findClass_of_methodNamed B.named
  have hlocks := B.notSynchronized
  subst hsz
  have hD := hD0.self (sz := s.heap.size)
  generalize hAe : va_A [] s.heap.size = A at hD ⊢
  have hA : ∀ q : Nat, s.heap.size ≤ q → A q := fun q h => by rw [← hAe]; exact Or.inr h
  have l39 := zat hts 1 (w := .constantLong RX8 39 (1099511627775)) rfl
  have hl := lv_entry ([.long p0, .int p2]) (n := 6) (Nat.le_of_ble_eq_true rfl)
  rw [lg_entry_eq]
  generalize (lg_sl ([.long p0, .int p2]) ++ List.replicate (6 - (lg_sl ([.long p0, .int p2])).length) Slot.unset).toArray = ls at hl ⊢
  have hl : lv_has ls 6 [(0, .long p0), (2, .int p2)] := hl
  refine zStart (A := A) hP (fun Q0 H locs hQ hP hS => ?_)
  unfold fX8_turned at hf
  refine lv_lload_n hx hb dX8_turned_0 rfl (lv_at hl 0 rfl) ?_
  obtain ⟨r1, hr1, hf⟩ := bd hf
  refine zSi (As := [.long p0]) (rest := []) (wn := []) ⟨hx, hb, hml, hown, hts⟩ (mX8_length l D H.size p0 N r1 hr1) (va_cwS 1 hts gX8_turned_X8_length rfl rfl rfl (by decide +kernel) ⟨Nat.le_of_ble_eq_true rfl, Nat.le_of_ble_eq_true rfl⟩) hK hP hD hS hA [] [] [] rfl (by decide) rfl (by decide) (by decide) rfl (by decide) rfl hl.1 rfl (Nat.le_of_ble_eq_true rfl) dX8_turned_1 ⟨Nat.zero_le _, Nat.zero_le _⟩ (fun H locs hP hD hS => ?_)
  refine lv_iload_n hx hb dX8_turned_4 rfl (lv_at hl 1 rfl) ?_
  refine lv_isub hx hb dX8_turned_5 ?_
  refine lv_istore_n (lv' := [(3, .int (r1 - p2)), (0, .long p0), (2, .int p2)]) hx hb dX8_turned_6 rfl hl (by decide) rfl (fun ls hl => ?_)
  refine lv_lload_n hx hb dX8_turned_7 rfl (lv_at hl 1 rfl) ?_
  refine lv_iconst (v := 5) hx hb dX8_turned_8 (by decide) ?_
  refine lv_iload_n hx hb dX8_turned_9 rfl (lv_at hl 2 rfl) ?_
  refine lv_imul hx hb dX8_turned_10 ?_
  refine lv_lshl hx hb dX8_turned_11 rfl ?_
  refine lv_ldc2 (v := (1099511627775 : Int64)) hx hb hown l39 dX8_turned_12 ?_
  refine lv_land hx hb dX8_turned_15 ?_
  refine lv_lstore (lv' := [(4, .long ((p0 <<< (Int32.toInt64 ((5 : Int32) * p2) &&& 63)) &&& (1099511627775 : Int64))), (3, .int (r1 - p2)), (0, .long p0), (2, .int p2)]) hx hb dX8_turned_16 hl (by decide) rfl (fun ls hl => ?_)
  refine lv_lload hx hb dX8_turned_18 (lv_at hl 0 rfl) ?_
  refine lv_iload_n hx hb dX8_turned_20 rfl (lv_at hl 1 rfl) ?_
  refine lv_bipush (v := 36) hx hb dX8_turned_21 (by decide) ?_
  obtain ⟨r2, hr2, hf⟩ := bd hf
  refine zSl (As := [.long ((p0 <<< (Int32.toInt64 ((5 : Int32) * p2) &&& 63)) &&& (1099511627775 : Int64)), .int (r1 - p2), .int (36 : Int32)]) (rest := []) (wn := []) ⟨hx, hb, hml, hown, hts⟩ (mX8_put l D H.size ((p0 <<< (Int32.toInt64 ((5 : Int32) * p2) &&& 63)) &&& (1099511627775 : Int64)) (r1 - p2) (36 : Int32) r2 hr2) (va_cwS 3 hts gX8_turned_X8_put rfl rfl rfl (by decide +kernel) ⟨Nat.le_of_ble_eq_true rfl, Nat.le_of_ble_eq_true rfl⟩) hK hP hD hS hA [] [] [] rfl (by decide) rfl (by decide) (by decide) rfl (by decide) rfl hl.1 rfl (Nat.le_of_ble_eq_true rfl) dX8_turned_23 ⟨Nat.zero_le _, Nat.zero_le _⟩ (fun H locs hP hD hS => ?_)
  refine lv_lload_n hx hb dX8_turned_26 rfl (lv_at hl 2 rfl) ?_
  refine lv_iload_n hx hb dX8_turned_27 rfl (lv_at hl 3 rfl) ?_
  obtain ⟨r3, hr3, hf⟩ := bd hf
  refine zSl (As := [.long p0, .int p2]) (rest := [.long r2]) (wn := []) ⟨hx, hb, hml, hown, hts⟩ (mX8_head l D H.size p0 p2 r3 hr3) (va_cwS 2 hts gX8_turned_X8_head rfl rfl rfl (by decide +kernel) ⟨Nat.le_of_ble_eq_true rfl, Nat.le_of_ble_eq_true rfl⟩) hK hP hD hS hA [] [] [] rfl (by decide) rfl (by decide) (by decide) rfl (by decide) rfl hl.1 rfl (Nat.le_of_ble_eq_true rfl) dX8_turned_28 ⟨Nat.zero_le _, Nat.zero_le _⟩ (fun H locs hP hD hS => ?_)
  refine lv_iconst (v := 5) hx hb dX8_turned_31 (by decide) ?_
  refine lv_iload_n hx hb dX8_turned_32 rfl (lv_at hl 1 rfl) ?_
  refine lv_iconst (v := 1) hx hb dX8_turned_33 (by decide) ?_
  refine lv_iadd hx hb dX8_turned_34 ?_
  refine lv_imul hx hb dX8_turned_35 ?_
  refine lv_lshr hx hb dX8_turned_36 rfl ?_
  refine lv_lor hx hb dX8_turned_37 ?_
  have he := Option.some.inj hf
  rw [hQ]
  exact W.lret (v := (r2 ||| (r3 >>> (Int32.toInt64 ((5 : Int32) * ((r1 - p2) + (1 : Int32))) &&& 63)))) hx hb hr (fun t ht hW => by rw [← he]; exact ⟨⟨(r2 ||| (r3 >>> (Int32.toInt64 ((5 : Int32) * ((r1 - p2) + (1 : Int32))) &&& 63))), (), rfl, rfl, by rw [ht]; exact hP, hD⟩, hS.F ht⟩) hS.2.2 dX8_turned_38
def fX3_keyOf (p0 : Int64) (p2 : Int32) (p3 : Int32) : Option (Int64) :=
  some ((((p0 <<< (Int32.toInt64 (9 : Int32) &&& 63)) ||| ((Int32.toInt64 p2) <<< (Int32.toInt64 (3 : Int32) &&& 63))) ||| (Int32.toInt64 p3)))
set_option maxHeartbeats 4000000 in
set_option maxRecDepth 100000 in
theorem mX3_keyOf (l : Launch) (D : zG)  (sz : Nat)   (p0 : Int64) (p2 : Int32) (p3 : Int32) (res : Int64) (hf : fX3_keyOf p0 p2 p3 = some res) : Met l yX3_keyOf wsX3_keyOf ({ frames := 0, cells := 0, slots := 0, locals := 0 } : Room) (va_Pc [.long p0, .int p2, .int p3] (zW D sz [])) (va_Ql (fun r (_ : Unit) => r = res) (fun _ => zB D (va_A [] sz) []) (va_A [] sz)) 0 0 (va_A [] sz) := by
  refine Met.ofW (cc := cX3_keyOf) (maxL := 4) (ret := (some .long)) (by decide) rfl ?_
  intro p e s m args below meth c s₁ B hml hv
  obtain ⟨rfl, hsz, hP, hK, hD0⟩ := hv
  have hx := B.exec
  have hb := B.bytes
  have hr := B.returns
  have hts := atoms_spec (ws := wsX3_keyOf) B.pre
  have hown : s.vm.findClass RX3 = some m.cls := findClass_of_methodNamed B.named
  have hlocks := B.notSynchronized
  subst hsz
  have hD := hD0.self (sz := s.heap.size)
  generalize hAe : va_A [] s.heap.size = A at hD ⊢
  have hA : ∀ q : Nat, s.heap.size ≤ q → A q := fun q h => by rw [← hAe]; exact Or.inr h
  have hl := lv_entry ([.long p0, .int p2, .int p3]) (n := 4) (Nat.le_of_ble_eq_true rfl)
  rw [lg_entry_eq]
  generalize (lg_sl ([.long p0, .int p2, .int p3]) ++ List.replicate (4 - (lg_sl ([.long p0, .int p2, .int p3])).length) Slot.unset).toArray = ls at hl ⊢
  have hl : lv_has ls 4 [(0, .long p0), (2, .int p2), (3, .int p3)] := hl
  refine zStart (A := A) hP (fun Q0 H locs hQ hP hS => ?_)
  unfold fX3_keyOf at hf
  refine lv_lload_n hx hb dX3_keyOf_0 rfl (lv_at hl 0 rfl) ?_
  refine lv_bipush (v := 9) hx hb dX3_keyOf_1 (by decide) ?_
  refine lv_lshl hx hb dX3_keyOf_3 rfl ?_
  refine lv_iload_n hx hb dX3_keyOf_4 rfl (lv_at hl 1 rfl) ?_
  refine lv_i2l hx hb dX3_keyOf_5 rfl ?_
  refine lv_iconst (v := 3) hx hb dX3_keyOf_6 (by decide) ?_
  refine lv_lshl hx hb dX3_keyOf_7 rfl ?_
  refine lv_lor hx hb dX3_keyOf_8 ?_
  refine lv_iload_n hx hb dX3_keyOf_9 rfl (lv_at hl 2 rfl) ?_
  refine lv_i2l hx hb dX3_keyOf_10 rfl ?_
  refine lv_lor hx hb dX3_keyOf_11 ?_
  have he := Option.some.inj hf
  rw [hQ]
  exact W.lret (v := (((p0 <<< (Int32.toInt64 (9 : Int32) &&& 63)) ||| ((Int32.toInt64 p2) <<< (Int32.toInt64 (3 : Int32) &&& 63))) ||| (Int32.toInt64 p3))) hx hb hr (fun t ht hW => by rw [← he]; exact ⟨⟨(((p0 <<< (Int32.toInt64 (9 : Int32) &&& 63)) ||| ((Int32.toInt64 p2) <<< (Int32.toInt64 (3 : Int32) &&& 63))) ||| (Int32.toInt64 p3)), (), rfl, rfl, by rw [ht]; exact hP, hD⟩, hS.F ht⟩) hS.2.2 dX3_keyOf_12
def fX7_below_7 (N : Nat) (n0_rows : Nat) (v0_size : Int32) (g0_rows : Nat → Int64) (p1 : Int64) : Nat → Int32 → Int32 → Option (Int32)
  | 0, _, _ => none
  | K + 1, x3, x4 =>
    if x4 ≤ (0 : Int32) then
      some (x3)
    else
      if v0_size < (x3 + x4) then
        (fX7_below_7 N n0_rows v0_size g0_rows p1 K) x3 (x4 >>> ((1 : Int32) &&& 31))
      else
        if ((x3 + x4) - (1 : Int32)) < 0 ∨ n0_rows ≤ (((x3 + x4) - (1 : Int32))).toNatClampNeg then none else
        if (0 : Int32) ≤ (lg_cmp (g0_rows (((x3 + x4) - (1 : Int32))).toNatClampNeg) p1) then
          (fX7_below_7 N n0_rows v0_size g0_rows p1 K) x3 (x4 >>> ((1 : Int32) &&& 31))
        else
          (fX7_below_7 N n0_rows v0_size g0_rows p1 K) (x3 + x4) (x4 >>> ((1 : Int32) &&& 31))
def fX7_below (N : Nat) (n0_rows : Nat) (v0_size : Int32) (g0_rows : Nat → Int64) (p1 : Int64) : Option (Int32) :=
  fX7_below_7 N n0_rows v0_size g0_rows p1 N (0 : Int32) (256 : Int32)
set_option maxHeartbeats 4000000 in
set_option maxRecDepth 100000 in
theorem mX7_below (l : Launch) (D : zG) (a0 : Nat) (a0_rows : Nat) (sz : Nat) (n0_rows : Nat) (v0_size : Int32) (g0_rows : Nat → Int64) (p1 : Int64) (N : Nat) (res : Int32) (hf : fX7_below N n0_rows v0_size g0_rows p1 = some res) : Met l yX7_below wsX7_below ({ frames := 0, cells := 0, slots := 0, locals := 0 } : Room) (va_Pc [.ref a0, .long p1] (zW D sz [(a0, .inr (5, [.ref a0_rows, .int v0_size])), (a0_rows, .inl (D.2 2, n0_rows, .inr (.inl g0_rows)))])) (va_Qi (fun r (_ : Unit) => r = res) (fun _ => zB D (va_A [(a0, .inr (5, [.ref a0_rows, .int v0_size])), (a0_rows, .inl (D.2 2, n0_rows, .inr (.inl g0_rows)))] sz) [(a0, .inr (5, [.ref a0_rows, .int v0_size])), (a0_rows, .inl (D.2 2, n0_rows, .inr (.inl g0_rows)))]) (va_A [(a0, .inr (5, [.ref a0_rows, .int v0_size])), (a0_rows, .inl (D.2 2, n0_rows, .inr (.inl g0_rows)))] sz)) 0 0 (va_A [(a0, .inr (5, [.ref a0_rows, .int v0_size])), (a0_rows, .inl (D.2 2, n0_rows, .inr (.inl g0_rows)))] sz) := by
  refine Met.ofW (cc := cX7_below) (maxL := 6) (ret := (some .int)) (by decide) rfl ?_
  intro p e s m args below meth c s₁ B hml hv
  obtain ⟨rfl, hsz, hP, hK, hD0⟩ := hv
  have hx := B.exec
  have hb := B.bytes
  have hr := B.returns
  have hts := atoms_spec (ws := wsX7_below) B.pre
  have hown : s.vm.findClass RX7 = some m.cls := findClass_of_methodNamed B.named
  have hlocks := B.notSynchronized
  subst hsz
  have hD := hD0.self (sz := s.heap.size)
  generalize hAe : va_A [(a0, .inr (5, [.ref a0_rows, .int v0_size])), (a0_rows, .inl (D.2 2, n0_rows, .inr (.inl g0_rows)))] s.heap.size = A at hD ⊢
  have hA : ∀ q : Nat, s.heap.size ≤ q → A q := fun q h => by rw [← hAe]; exact Or.inr h
  have l24 := zat hts 1 (w := .fieldLink RX7 24 "TurnedWords$Rising" "size" "I") rfl
  have l18 := zat hts 2 (w := .fieldLink RX7 18 "TurnedWords$Rising" "rows" "[J") rfl
  have hwX7 : ∀ w ∈ u_ws RX7 TX7 2, w ∈ wsX7_below := fun w h => List.mem_cons_of_mem _ (List.mem_append_right _ h)
  have hl := lv_entry ([.ref a0, .long p1]) (n := 6) (Nat.le_of_ble_eq_true rfl)
  rw [lg_entry_eq]
  generalize (lg_sl ([.ref a0, .long p1]) ++ List.replicate (6 - (lg_sl ([.ref a0, .long p1])).length) Slot.unset).toArray = ls at hl ⊢
  have hl : lv_has ls 6 [(0, .ref a0), (1, .long p1)] := hl
  refine zStart (A := A) hP (fun Q0 H locs hQ hP hS => ?_)
  have k7 : ∀ K : Nat, ∀ (x3 : Int32) (x4 : Int32) (H : Heap) (locs : List Loc) (ls : Array Slot), fX7_below_7 N n0_rows v0_size g0_rows p1 K x3 x4 = some res → va_P D.1 vwCl [(a0, .inr (5, [.ref a0_rows, .int v0_size])), (a0_rows, .inl (D.2 2, n0_rows, .inr (.inl g0_rows)))] H → va_D A [(a0, .inr (5, [.ref a0_rows, .int v0_size])), (a0_rows, .inl (D.2 2, n0_rows, .inr (.inl g0_rows)))] → va_S A s.heap H locs → lv_has ls 6 [(0, .ref a0), (1, .long p1), (3, .int x3), (4, .int x4)] → W p l e (headSpec wsX7_below ({ frames := 0, cells := 0, slots := 0, locals := 0 } : Room)).room s m ([.ref a0, .long p1] : List Value).toArray below meth c H locs 0 0 Q0 (F0 m 7 ls []) := by
    intro K
    induction K with
    | zero =>
      intro x3 x4 H locs ls hf
      rw [fX7_below_7] at hf
      cases hf
    | succ K ih =>
      intro x3 x4 H locs ls hf hP hD hS hl
      rw [fX7_below_7] at hf
      refine lv_iload hx hb dX7_below_7 (lv_at hl 3 rfl) ?_
      refine lv_if_le (tgt := 53) hx hb dX7_below_9 (by decide) (fun c_1 => ?_) (fun c_1 => ?_)
      · replace hf := ip c_1 hf
        refine lv_iload_n hx hb dX7_below_53 rfl (lv_at hl 2 rfl) ?_
        have he := Option.some.inj hf
        rw [hQ]
        exact W.iret (v := x3) hx hb hr (fun t ht hW => by rw [← he]; exact ⟨⟨x3, (), rfl, rfl, by rw [ht]; exact hP, hD⟩, hS.F ht⟩) hS.2.2 dX7_below_54
      · replace hf := im c_1 hf
        refine lv_iload_n hx hb dX7_below_12 rfl (lv_at hl 2 rfl) ?_
        refine lv_iload hx hb dX7_below_13 (lv_at hl 3 rfl) ?_
        refine lv_iadd hx hb dX7_below_15 ?_
        refine lv_istore (lv' := [(5, .int (x3 + x4)), (0, .ref a0), (1, .long p1), (3, .int x3), (4, .int x4)]) hx hb dX7_below_16 hl (by decide) rfl (fun ls hl => ?_)
        refine lv_iload hx hb dX7_below_18 (lv_at hl 0 rfl) ?_
        refine lv_aload_n hx hb dX7_below_20 rfl (lv_at hl 1 rfl) ?_
        refine va_get (D := D.1) (ci := 5) (v := .int v0_size) (C := RX7) (T := TX7) (N := 2) hx hb hts hwX7 hown hK.1 hP 0 rfl rfl 1 (by decide) l24 (fun _ h9 => h9) rfl dX7_below_21 ?_
        refine lv_icmp_gt (tgt := 44) hx hb dX7_below_24 (by decide) (fun c_2 => ?_) (fun c_2 => ?_)
        · replace hf := ip c_2 hf
          refine lv_iload hx hb dX7_below_44 (lv_at hl 4 rfl) ?_
          refine lv_iconst (v := 1) hx hb dX7_below_46 (by decide) ?_
          refine lv_ishr hx hb dX7_below_47 ?_
          refine lv_istore (lv' := [(4, .int (x4 >>> ((1 : Int32) &&& 31))), (5, .int (x3 + x4)), (0, .ref a0), (1, .long p1), (3, .int x3)]) hx hb dX7_below_48 hl (by decide) rfl (fun ls hl => ?_)
          refine lv_goto (tgt := 7) hx hb dX7_below_50 (by decide) ?_
          exact ih x3 (x4 >>> ((1 : Int32) &&& 31)) H locs ls hf hP hD hS (lv_sub hl [2, 3, 4, 0] rfl)
        · replace hf := im c_2 hf
          refine lv_aload_n hx hb dX7_below_27 rfl (lv_at hl 1 rfl) ?_
          refine va_get (D := D.1) (ci := 5) (v := .ref a0_rows) (C := RX7) (T := TX7) (N := 2) hx hb hts hwX7 hown hK.1 hP 0 rfl rfl 0 (by decide) l18 (fun _ h9 => h9) rfl dX7_below_28 ?_
          refine lv_iload hx hb dX7_below_31 (lv_at hl 0 rfl) ?_
          refine lv_iconst (v := 1) hx hb dX7_below_33 (by decide) ?_
          refine lv_isub hx hb dX7_below_34 ?_
          obtain ⟨h_3, hf⟩ := gd hf
          refine va_lald hx hb hK.1 hP 1 2 rfl rfl h_3 dX7_below_35 ?_
          refine lv_lload_n hx hb dX7_below_36 rfl (lv_at hl 2 rfl) ?_
          refine W.lcmp hx hb dX7_below_37 ?_
          refine lv_if_ge (tgt := 44) hx hb dX7_below_38 (by decide) (fun c_4 => ?_) (fun c_4 => ?_)
          · replace hf := ip c_4 hf
            refine lv_iload hx hb dX7_below_44 (lv_at hl 4 rfl) ?_
            refine lv_iconst (v := 1) hx hb dX7_below_46 (by decide) ?_
            refine lv_ishr hx hb dX7_below_47 ?_
            refine lv_istore (lv' := [(4, .int (x4 >>> ((1 : Int32) &&& 31))), (5, .int (x3 + x4)), (0, .ref a0), (1, .long p1), (3, .int x3)]) hx hb dX7_below_48 hl (by decide) rfl (fun ls hl => ?_)
            refine lv_goto (tgt := 7) hx hb dX7_below_50 (by decide) ?_
            exact ih x3 (x4 >>> ((1 : Int32) &&& 31)) H locs ls hf hP hD hS (lv_sub hl [2, 3, 4, 0] rfl)
          · replace hf := im c_4 hf
            refine lv_iload hx hb dX7_below_41 (lv_at hl 0 rfl) ?_
            refine lv_istore_n (lv' := [(3, .int (x3 + x4)), (5, .int (x3 + x4)), (0, .ref a0), (1, .long p1), (4, .int x4)]) hx hb dX7_below_43 rfl hl (by decide) rfl (fun ls hl => ?_)
            refine lv_iload hx hb dX7_below_44 (lv_at hl 4 rfl) ?_
            refine lv_iconst (v := 1) hx hb dX7_below_46 (by decide) ?_
            refine lv_ishr hx hb dX7_below_47 ?_
            refine lv_istore (lv' := [(4, .int (x4 >>> ((1 : Int32) &&& 31))), (3, .int (x3 + x4)), (5, .int (x3 + x4)), (0, .ref a0), (1, .long p1)]) hx hb dX7_below_48 hl (by decide) rfl (fun ls hl => ?_)
            refine lv_goto (tgt := 7) hx hb dX7_below_50 (by decide) ?_
            exact ih (x3 + x4) (x4 >>> ((1 : Int32) &&& 31)) H locs ls hf hP hD hS (lv_sub hl [3, 4, 1, 0] rfl)
  unfold fX7_below at hf
  refine lv_iconst (v := 0) hx hb dX7_below_0 (by decide) ?_
  refine lv_istore_n (lv' := [(3, .int (0 : Int32)), (0, .ref a0), (1, .long p1)]) hx hb dX7_below_1 rfl hl (by decide) rfl (fun ls hl => ?_)
  refine lv_sipush (v := 256) hx hb dX7_below_2 (by decide) ?_
  refine lv_istore (lv' := [(4, .int (256 : Int32)), (3, .int (0 : Int32)), (0, .ref a0), (1, .long p1)]) hx hb dX7_below_5 hl (by decide) rfl (fun ls hl => ?_)
  exact k7 N (0 : Int32) (256 : Int32) H locs ls hf hP hD hS (lv_sub hl [2, 3, 1, 0] rfl)
def fX7_isAt (n0_rows : Nat) (v0_size : Int32) (g0_rows : Nat → Int64) (p1 : Int32) (p2 : Int64) : Option (Int32) :=
  if v0_size ≤ p1 then
    some ((0 : Int32))
  else
    if p1 < 0 ∨ n0_rows ≤ (p1).toNatClampNeg then none else
    if (lg_cmp (g0_rows (p1).toNatClampNeg) p2) = (0 : Int32) then
      some ((1 : Int32))
    else
      some ((0 : Int32))
set_option maxHeartbeats 4000000 in
set_option maxRecDepth 100000 in
theorem mX7_isAt (l : Launch) (D : zG) (a0 : Nat) (a0_rows : Nat) (sz : Nat) (n0_rows : Nat) (v0_size : Int32) (g0_rows : Nat → Int64) (p1 : Int32) (p2 : Int64) (res : Int32) (hf : fX7_isAt n0_rows v0_size g0_rows p1 p2 = some res) : Met l yX7_isAt wsX7_isAt ({ frames := 0, cells := 0, slots := 0, locals := 0 } : Room) (va_Pc [.ref a0, .int p1, .long p2] (zW D sz [(a0, .inr (5, [.ref a0_rows, .int v0_size])), (a0_rows, .inl (D.2 2, n0_rows, .inr (.inl g0_rows)))])) (va_Qi (fun r (_ : Unit) => r = res ∧ (r = 0 ∨ r = 1)) (fun _ => zB D (va_A [(a0, .inr (5, [.ref a0_rows, .int v0_size])), (a0_rows, .inl (D.2 2, n0_rows, .inr (.inl g0_rows)))] sz) [(a0, .inr (5, [.ref a0_rows, .int v0_size])), (a0_rows, .inl (D.2 2, n0_rows, .inr (.inl g0_rows)))]) (va_A [(a0, .inr (5, [.ref a0_rows, .int v0_size])), (a0_rows, .inl (D.2 2, n0_rows, .inr (.inl g0_rows)))] sz)) 0 0 (va_A [(a0, .inr (5, [.ref a0_rows, .int v0_size])), (a0_rows, .inl (D.2 2, n0_rows, .inr (.inl g0_rows)))] sz) := by
  refine Met.ofW (cc := cX7_isAt) (maxL := 4) (ret := (some .boolean)) (by decide) rfl ?_
  intro p e s m args below meth c s₁ B hml hv
  obtain ⟨rfl, hsz, hP, hK, hD0⟩ := hv
  have hx := B.exec
  have hb := B.bytes
  have hr := B.returns
  have hts := atoms_spec (ws := wsX7_isAt) B.pre
  have hown : s.vm.findClass RX7 = some m.cls := findClass_of_methodNamed B.named
  have hlocks := B.notSynchronized
  subst hsz
  have hD := hD0.self (sz := s.heap.size)
  generalize hAe : va_A [(a0, .inr (5, [.ref a0_rows, .int v0_size])), (a0_rows, .inl (D.2 2, n0_rows, .inr (.inl g0_rows)))] s.heap.size = A at hD ⊢
  have hA : ∀ q : Nat, s.heap.size ≤ q → A q := fun q h => by rw [← hAe]; exact Or.inr h
  have l24 := zat hts 1 (w := .fieldLink RX7 24 "TurnedWords$Rising" "size" "I") rfl
  have l18 := zat hts 2 (w := .fieldLink RX7 18 "TurnedWords$Rising" "rows" "[J") rfl
  have hwX7 : ∀ w ∈ u_ws RX7 TX7 2, w ∈ wsX7_isAt := fun w h => List.mem_cons_of_mem _ (List.mem_append_right _ h)
  have hl := lv_entry ([.ref a0, .int p1, .long p2]) (n := 4) (Nat.le_of_ble_eq_true rfl)
  rw [lg_entry_eq]
  generalize (lg_sl ([.ref a0, .int p1, .long p2]) ++ List.replicate (4 - (lg_sl ([.ref a0, .int p1, .long p2])).length) Slot.unset).toArray = ls at hl ⊢
  have hl : lv_has ls 4 [(0, .ref a0), (1, .int p1), (2, .long p2)] := hl
  refine zStart (A := A) hP (fun Q0 H locs hQ hP hS => ?_)
  unfold fX7_isAt at hf
  refine lv_iload_n hx hb dX7_isAt_0 rfl (lv_at hl 1 rfl) ?_
  refine lv_aload_n hx hb dX7_isAt_1 rfl (lv_at hl 0 rfl) ?_
  refine va_get (D := D.1) (ci := 5) (v := .int v0_size) (C := RX7) (T := TX7) (N := 2) hx hb hts hwX7 hown hK.1 hP 0 rfl rfl 1 (by decide) l24 (fun _ h9 => h9) rfl dX7_isAt_2 ?_
  refine lv_icmp_ge (tgt := 23) hx hb dX7_isAt_5 (by decide) (fun c_1 => ?_) (fun c_1 => ?_)
  · replace hf := ip c_1 hf
    refine lv_iconst (v := 0) hx hb dX7_isAt_23 (by decide) ?_
    have he := Option.some.inj hf
    rw [hQ]
    exact W.zret (v := (0 : Int32)) hx hb hr (znb (Or.inl rfl)) (fun t ht hW => by rw [← he]; exact ⟨⟨(0 : Int32), (), rfl, ⟨rfl, Or.inl rfl⟩, by rw [ht]; exact hP, hD⟩, hS.F ht⟩) hS.2.2 dX7_isAt_24
  · replace hf := im c_1 hf
    refine lv_aload_n hx hb dX7_isAt_8 rfl (lv_at hl 0 rfl) ?_
    refine va_get (D := D.1) (ci := 5) (v := .ref a0_rows) (C := RX7) (T := TX7) (N := 2) hx hb hts hwX7 hown hK.1 hP 0 rfl rfl 0 (by decide) l18 (fun _ h9 => h9) rfl dX7_isAt_9 ?_
    refine lv_iload_n hx hb dX7_isAt_12 rfl (lv_at hl 1 rfl) ?_
    obtain ⟨h_2, hf⟩ := gd hf
    refine va_lald hx hb hK.1 hP 1 2 rfl rfl h_2 dX7_isAt_13 ?_
    refine lv_lload_n hx hb dX7_isAt_14 rfl (lv_at hl 2 rfl) ?_
    refine W.lcmp hx hb dX7_isAt_15 ?_
    refine lv_if_ne (tgt := 23) hx hb dX7_isAt_16 (by decide) (fun c_3 => ?_) (fun c_3 => ?_)
    · replace hf := im c_3 hf
      refine lv_iconst (v := 0) hx hb dX7_isAt_23 (by decide) ?_
      have he := Option.some.inj hf
      rw [hQ]
      exact W.zret (v := (0 : Int32)) hx hb hr (znb (Or.inl rfl)) (fun t ht hW => by rw [← he]; exact ⟨⟨(0 : Int32), (), rfl, ⟨rfl, Or.inl rfl⟩, by rw [ht]; exact hP, hD⟩, hS.F ht⟩) hS.2.2 dX7_isAt_24
    · replace hf := ip c_3 hf
      refine lv_iconst (v := 1) hx hb dX7_isAt_19 (by decide) ?_
      refine lv_goto (tgt := 24) hx hb dX7_isAt_20 (by decide) ?_
      have he := Option.some.inj hf
      rw [hQ]
      exact W.zret (v := (1 : Int32)) hx hb hr (znb (Or.inr rfl)) (fun t ht hW => by rw [← he]; exact ⟨⟨(1 : Int32), (), rfl, ⟨rfl, Or.inr rfl⟩, by rw [ht]; exact hP, hD⟩, hS.F ht⟩) hS.2.2 dX7_isAt_24
