def fX10_append_3 (N : Nat) (p1 : Int32) : Nat → Int32 → Int32 → (Nat → Int32) → Option (Int32 × (Nat → Int32))
  | 0, _, _, _ => none
  | K + 1, x2, v0_size, g0_bytes =>
    if x2 < (0 : Int32) then
      some (v0_size, g0_bytes)
    else
      if (Int32.ofNat 400) ≤ v0_size then
        some (v0_size, g0_bytes)
      else
        if v0_size < 0 ∨ 400 ≤ (v0_size).toNatClampNeg then none else
        (fX10_append_3 N p1 K) (x2 + (-8 : Int32)) (v0_size + (1 : Int32)) (upd g0_bytes (v0_size).toNatClampNeg (vp_nar .byte ((Int32.toInt8 (p1 >>> (x2 &&& 31))).toInt32)))
def fX10_append (N : Nat) (v0_size : Int32) (g0_bytes : Nat → Int32) (p1 : Int32) : Option (Int32 × (Nat → Int32)) :=
  fX10_append_3 N p1 N (24 : Int32) v0_size g0_bytes
set_option maxHeartbeats 4000000 in
set_option maxRecDepth 100000 in
theorem mX10_append (l : Launch) (D : zG) (a0 : Nat) (a0_bytes : Nat) (sz : Nat)  (v0_size : Int32) (g0_bytes : Nat → Int32) (p1 : Int32) (N : Nat) (res : Int32 × (Nat → Int32)) (hf : fX10_append N v0_size g0_bytes p1 = some res) : Met l yX10_append wsX10_append ({ frames := 0, cells := 0, slots := 0, locals := 0 } : Room) (va_Pc [.ref a0, .int p1] (zW D sz [(a0, .inr (7, [.ref a0_bytes, .int v0_size])), (a0_bytes, .inl (D.2 0, 400, .inl g0_bytes))])) (va_Qv (fun (_ : Unit) => True) (fun _ => zB D (va_A [(a0, .inr (7, [.ref a0_bytes, .int v0_size])), (a0_bytes, .inl (D.2 0, 400, .inl g0_bytes))] sz) [(a0, .inr (7, [.ref a0_bytes, .int res.1])), (a0_bytes, .inl (D.2 0, 400, .inl res.2))]) (va_A [(a0, .inr (7, [.ref a0_bytes, .int v0_size])), (a0_bytes, .inl (D.2 0, 400, .inl g0_bytes))] sz)) 0 0 (va_A [(a0, .inr (7, [.ref a0_bytes, .int v0_size])), (a0_bytes, .inl (D.2 0, 400, .inl g0_bytes))] sz) := by
  refine Met.ofW (cc := cX10_append) (maxL := 3) (ret := none) (by decide) rfl ?_
  intro p e s m args below meth c s₁ B hml hv
  obtain ⟨rfl, hsz, hP, hK, hD0⟩ := hv
  have hx := B.exec
  have hb := B.bytes
  have hr := B.returns
  have hts := atoms_spec (ws := wsX10_append) B.pre
  have hown : s.vm.findClass RX10 = some m.cls := findClass_of_methodNamed B.named
  have hlocks := B.notSynchronized
  subst hsz
  have hD := hD0.self (sz := s.heap.size)
  generalize hAe : va_A [(a0, .inr (7, [.ref a0_bytes, .int v0_size])), (a0_bytes, .inl (D.2 0, 400, .inl g0_bytes))] s.heap.size = A at hD ⊢
  have hA : ∀ q : Nat, s.heap.size ≤ q → A q := fun q h => by rw [← hAe]; exact Or.inr h
  have l15 := zat hts 1 (w := .fieldLink RX10 15 "TurnedWords$Tape" "size" "I") rfl
  have l9 := zat hts 2 (w := .fieldLink RX10 9 "TurnedWords$Tape" "bytes" "[B") rfl
  have hwX10 : ∀ w ∈ u_ws RX10 TX10 2, w ∈ wsX10_append := fun w h => List.mem_cons_of_mem _ (List.mem_append_right _ h)
  have hl := lv_entry ([.ref a0, .int p1]) (n := 3) (Nat.le_of_ble_eq_true rfl)
  rw [lg_entry_eq]
  generalize (lg_sl ([.ref a0, .int p1]) ++ List.replicate (3 - (lg_sl ([.ref a0, .int p1])).length) Slot.unset).toArray = ls at hl ⊢
  have hl : lv_has ls 3 [(0, .ref a0), (1, .int p1)] := hl
  refine zStart (A := A) hP (fun Q0 H locs hQ hP hS => ?_)
  have k3 : ∀ K : Nat, ∀ (x2 : Int32) (v0_size : Int32) (g0_bytes : Nat → Int32) (H : Heap) (locs : List Loc) (ls : Array Slot), fX10_append_3 N p1 K x2 v0_size g0_bytes = some res → va_P D.1 vwCl [(a0, .inr (7, [.ref a0_bytes, .int v0_size])), (a0_bytes, .inl (D.2 0, 400, .inl g0_bytes))] H → va_D A [(a0, .inr (7, [.ref a0_bytes, .int v0_size])), (a0_bytes, .inl (D.2 0, 400, .inl g0_bytes))] → va_S A s.heap H locs → lv_has ls 3 [(0, .ref a0), (1, .int p1), (2, .int x2)] → W p l e (headSpec wsX10_append ({ frames := 0, cells := 0, slots := 0, locals := 0 } : Room)).room s m ([.ref a0, .int p1] : List Value).toArray below meth c H locs 0 0 Q0 (F0 m 3 ls []) := by
    intro K
    induction K with
    | zero =>
      intro x2 v0_size g0_bytes H locs ls hf
      rw [fX10_append_3] at hf
      cases hf
    | succ K ih =>
      intro x2 v0_size g0_bytes H locs ls hf hP hD hS hl
      rw [fX10_append_3] at hf
      refine lv_iload_n hx hb dX10_append_3 rfl (lv_at hl 2 rfl) ?_
      refine lv_if_lt (tgt := 48) hx hb dX10_append_4 (by decide) (fun c_1 => ?_) (fun c_1 => ?_)
      · replace hf := ip c_1 hf
        have he := Option.some.inj hf
        rw [hQ]
        exact W.vret hx hb hr (fun t ht hW => by rw [← he]; exact ⟨⟨(), rfl, trivial, by rw [ht]; exact hP, hD⟩, hS.F ht⟩) hS.2.2 dX10_append_48
      · replace hf := im c_1 hf
        refine lv_aload_n hx hb dX10_append_7 rfl (lv_at hl 0 rfl) ?_
        refine va_get (D := D.1) (ci := 7) (v := .int v0_size) (C := RX10) (T := TX10) (N := 2) hx hb hts hwX10 hown hK.1 hP 0 rfl rfl 1 (by decide) l15 (fun _ h9 => h9) rfl dX10_append_8 ?_
        refine lv_aload_n hx hb dX10_append_11 rfl (lv_at hl 0 rfl) ?_
        refine va_get (D := D.1) (ci := 7) (v := .ref a0_bytes) (C := RX10) (T := TX10) (N := 2) hx hb hts hwX10 hown hK.1 hP 0 rfl rfl 0 (by decide) l9 (fun _ h9 => h9) rfl dX10_append_12 ?_
        refine va_alen hx hb hK.1 hP 1 0 rfl rfl (v := (Int32.ofNat 400)) rfl dX10_append_15 ?_
        refine lv_icmp_ge (tgt := 48) hx hb dX10_append_16 (by decide) (fun c_2 => ?_) (fun c_2 => ?_)
        · replace hf := ip c_2 hf
          have he := Option.some.inj hf
          rw [hQ]
          exact W.vret hx hb hr (fun t ht hW => by rw [← he]; exact ⟨⟨(), rfl, trivial, by rw [ht]; exact hP, hD⟩, hS.F ht⟩) hS.2.2 dX10_append_48
        · replace hf := im c_2 hf
          refine lv_aload_n hx hb dX10_append_19 rfl (lv_at hl 0 rfl) ?_
          refine va_get (D := D.1) (ci := 7) (v := .ref a0_bytes) (C := RX10) (T := TX10) (N := 2) hx hb hts hwX10 hown hK.1 hP 0 rfl rfl 0 (by decide) l9 (fun _ h9 => h9) rfl dX10_append_20 ?_
          refine lv_aload_n hx hb dX10_append_23 rfl (lv_at hl 0 rfl) ?_
          refine va_get (D := D.1) (ci := 7) (v := .int v0_size) (C := RX10) (T := TX10) (N := 2) hx hb hts hwX10 hown hK.1 hP 0 rfl rfl 1 (by decide) l15 (fun _ h9 => h9) rfl dX10_append_24 ?_
          refine lv_iload_n hx hb dX10_append_27 rfl (lv_at hl 1 rfl) ?_
          refine lv_iload_n hx hb dX10_append_28 rfl (lv_at hl 2 rfl) ?_
          refine lv_ishr hx hb dX10_append_29 ?_
          refine lv_i2b hx hb dX10_append_30 rfl ?_
          obtain ⟨h_3, hf⟩ := gd hf
          refine va_bast hx hb hK.1 hP hD hS 1 0 rfl rfl h_3 dX10_append_31 (fun H locs hP hD hS => ?_)
          have hP : va_P D.1 vwCl [(a0, .inr (7, [.ref a0_bytes, .int v0_size])), (a0_bytes, .inl (D.2 0, 400, .inl (upd g0_bytes (v0_size).toNatClampNeg (vp_nar .byte ((Int32.toInt8 (p1 >>> (x2 &&& 31))).toInt32)))))] H := hP
          have hD : va_D A [(a0, .inr (7, [.ref a0_bytes, .int v0_size])), (a0_bytes, .inl (D.2 0, 400, .inl (upd g0_bytes (v0_size).toNatClampNeg (vp_nar .byte ((Int32.toInt8 (p1 >>> (x2 &&& 31))).toInt32)))))] := hD
          refine lv_aload_n hx hb dX10_append_32 rfl (lv_at hl 0 rfl) ?_
          refine lv_dup hx hb dX10_append_33 rfl ?_
          refine va_get (D := D.1) (ci := 7) (v := .int v0_size) (C := RX10) (T := TX10) (N := 2) hx hb hts hwX10 hown hK.1 hP 0 rfl rfl 1 (by decide) l15 (fun _ h9 => h9) rfl dX10_append_34 ?_
          refine lv_iconst (v := 1) hx hb dX10_append_37 (by decide) ?_
          refine lv_iadd hx hb dX10_append_38 ?_
          refine va_put (D := D.1) (ci := 7) (v := .int (v0_size + (1 : Int32))) (ty := .int) (C := RX10) (T := TX10) (N := 2) hx hb hts hwX10 tyX10 tyX10_ok nmX10 hown hK.1 hP hD hS 0 rfl rfl 1 (by decide) l15 (fun _ h9 => h9) rfl (by decide +kernel) rfl rfl (Nat.le_of_ble_eq_true rfl) dX10_append_39 (fun H locs hP hD hS => ?_)
          have hP : va_P D.1 vwCl [(a0, .inr (7, [.ref a0_bytes, .int (v0_size + (1 : Int32))])), (a0_bytes, .inl (D.2 0, 400, .inl (upd g0_bytes (v0_size).toNatClampNeg (vp_nar .byte ((Int32.toInt8 (p1 >>> (x2 &&& 31))).toInt32)))))] H := hP
          have hD : va_D A [(a0, .inr (7, [.ref a0_bytes, .int (v0_size + (1 : Int32))])), (a0_bytes, .inl (D.2 0, 400, .inl (upd g0_bytes (v0_size).toNatClampNeg (vp_nar .byte ((Int32.toInt8 (p1 >>> (x2 &&& 31))).toInt32)))))] := hD
          refine lv_iinc (v := (x2 + (-8 : Int32))) (lv' := [(2, .int (x2 + (-8 : Int32))), (0, .ref a0), (1, .int p1)]) hx hb dX10_append_42 hl (k := 2) rfl rfl (by decide) rfl (fun ls hl => ?_)
          refine lv_goto (tgt := 3) hx hb dX10_append_45 (by decide) ?_
          exact ih (x2 + (-8 : Int32)) (v0_size + (1 : Int32)) (upd g0_bytes (v0_size).toNatClampNeg (vp_nar .byte ((Int32.toInt8 (p1 >>> (x2 &&& 31))).toInt32))) H locs ls hf hP hD hS (lv_sub hl [1, 2, 0] rfl)
  unfold fX10_append at hf
  refine lv_bipush (v := 24) hx hb dX10_append_0 (by decide) ?_
  refine lv_istore_n (lv' := [(2, .int (24 : Int32)), (0, .ref a0), (1, .int p1)]) hx hb dX10_append_2 rfl hl (by decide) rfl (fun ls hl => ?_)
  exact k3 N (24 : Int32) v0_size g0_bytes H locs ls hf hP hD hS (lv_sub hl [1, 2, 0] rfl)
def fX10_shorten (v0_size : Int32) (p1 : Int32) : Option (Int32 × Int32) :=
  if p1 < (0 : Int32) then
    some ((0 : Int32), v0_size)
  else
    if p1 ≤ v0_size then
      some ((1 : Int32), p1)
    else
      some ((0 : Int32), v0_size)
set_option maxHeartbeats 4000000 in
set_option maxRecDepth 100000 in
theorem mX10_shorten (l : Launch) (D : zG) (a0 : Nat) (a0_bytes : Nat) (sz : Nat)  (v0_size : Int32) (p1 : Int32) (res : Int32 × Int32) (hf : fX10_shorten v0_size p1 = some res) : Met l yX10_shorten wsX10_shorten ({ frames := 0, cells := 0, slots := 0, locals := 0 } : Room) (va_Pc [.ref a0, .int p1] (zW D sz [(a0, .inr (7, [.ref a0_bytes, .int v0_size]))])) (va_Qi (fun r (_ : Unit) => r = res.1 ∧ (r = 0 ∨ r = 1)) (fun _ => zB D (va_A [(a0, .inr (7, [.ref a0_bytes, .int v0_size]))] sz) [(a0, .inr (7, [.ref a0_bytes, .int res.2]))]) (va_A [(a0, .inr (7, [.ref a0_bytes, .int v0_size]))] sz)) 0 0 (va_A [(a0, .inr (7, [.ref a0_bytes, .int v0_size]))] sz) := by
  refine Met.ofW (cc := cX10_shorten) (maxL := 2) (ret := (some .boolean)) (by decide) rfl ?_
  intro p e s m args below meth c s₁ B hml hv
  obtain ⟨rfl, hsz, hP, hK, hD0⟩ := hv
  have hx := B.exec
  have hb := B.bytes
  have hr := B.returns
  have hts := atoms_spec (ws := wsX10_shorten) B.pre
  have hown : s.vm.findClass RX10 = some m.cls := findClass_of_methodNamed B.named
  have hlocks := B.notSynchronized
  subst hsz
  have hD := hD0.self (sz := s.heap.size)
  generalize hAe : va_A [(a0, .inr (7, [.ref a0_bytes, .int v0_size]))] s.heap.size = A at hD ⊢
  have hA : ∀ q : Nat, s.heap.size ≤ q → A q := fun q h => by rw [← hAe]; exact Or.inr h
  have l15 := zat hts 1 (w := .fieldLink RX10 15 "TurnedWords$Tape" "size" "I") rfl
  have hwX10 : ∀ w ∈ u_ws RX10 TX10 2, w ∈ wsX10_shorten := fun w h => List.mem_cons_of_mem _ (List.mem_append_right _ h)
  have hl := lv_entry ([.ref a0, .int p1]) (n := 2) (Nat.le_of_ble_eq_true rfl)
  rw [lg_entry_eq]
  generalize (lg_sl ([.ref a0, .int p1]) ++ List.replicate (2 - (lg_sl ([.ref a0, .int p1])).length) Slot.unset).toArray = ls at hl ⊢
  have hl : lv_has ls 2 [(0, .ref a0), (1, .int p1)] := hl
  refine zStart (A := A) hP (fun Q0 H locs hQ hP hS => ?_)
  unfold fX10_shorten at hf
  refine lv_iload_n hx hb dX10_shorten_0 rfl (lv_at hl 1 rfl) ?_
  refine lv_if_lt (tgt := 12) hx hb dX10_shorten_1 (by decide) (fun c_1 => ?_) (fun c_1 => ?_)
  · replace hf := ip c_1 hf
    refine lv_iconst (v := 0) hx hb dX10_shorten_12 (by decide) ?_
    have he := Option.some.inj hf
    rw [hQ]
    exact W.zret (v := (0 : Int32)) hx hb hr (znb (Or.inl rfl)) (fun t ht hW => by rw [← he]; exact ⟨⟨(0 : Int32), (), rfl, ⟨rfl, Or.inl rfl⟩, by rw [ht]; exact hP, hD⟩, hS.F ht⟩) hS.2.2 dX10_shorten_13
  · replace hf := im c_1 hf
    refine lv_iload_n hx hb dX10_shorten_4 rfl (lv_at hl 1 rfl) ?_
    refine lv_aload_n hx hb dX10_shorten_5 rfl (lv_at hl 0 rfl) ?_
    refine va_get (D := D.1) (ci := 7) (v := .int v0_size) (C := RX10) (T := TX10) (N := 2) hx hb hts hwX10 hown hK.1 hP 0 rfl rfl 1 (by decide) l15 (fun _ h9 => h9) rfl dX10_shorten_6 ?_
    refine lv_icmp_le (tgt := 14) hx hb dX10_shorten_9 (by decide) (fun c_2 => ?_) (fun c_2 => ?_)
    · replace hf := ip c_2 hf
      refine lv_aload_n hx hb dX10_shorten_14 rfl (lv_at hl 0 rfl) ?_
      refine lv_iload_n hx hb dX10_shorten_15 rfl (lv_at hl 1 rfl) ?_
      refine va_put (D := D.1) (ci := 7) (v := .int p1) (ty := .int) (C := RX10) (T := TX10) (N := 2) hx hb hts hwX10 tyX10 tyX10_ok nmX10 hown hK.1 hP hD hS 0 rfl rfl 1 (by decide) l15 (fun _ h9 => h9) rfl (by decide +kernel) rfl rfl (Nat.le_of_ble_eq_true rfl) dX10_shorten_16 (fun H locs hP hD hS => ?_)
      have hP : va_P D.1 vwCl [(a0, .inr (7, [.ref a0_bytes, .int p1]))] H := hP
      have hD : va_D A [(a0, .inr (7, [.ref a0_bytes, .int p1]))] := hD
      refine lv_iconst (v := 1) hx hb dX10_shorten_19 (by decide) ?_
      have he := Option.some.inj hf
      rw [hQ]
      exact W.zret (v := (1 : Int32)) hx hb hr (znb (Or.inr rfl)) (fun t ht hW => by rw [← he]; exact ⟨⟨(1 : Int32), (), rfl, ⟨rfl, Or.inr rfl⟩, by rw [ht]; exact hP, hD⟩, hS.F ht⟩) hS.2.2 dX10_shorten_20
    · replace hf := im c_2 hf
      refine lv_iconst (v := 0) hx hb dX10_shorten_12 (by decide) ?_
      have he := Option.some.inj hf
      rw [hQ]
      exact W.zret (v := (0 : Int32)) hx hb hr (znb (Or.inl rfl)) (fun t ht hW => by rw [← he]; exact ⟨⟨(0 : Int32), (), rfl, ⟨rfl, Or.inl rfl⟩, by rw [ht]; exact hP, hD⟩, hS.F ht⟩) hS.2.2 dX10_shorten_13
def fX11_feed (N : Nat) (v0_now_tape_size : Int32) (g0_now_tape_bytes : Nat → Int32) (p1 : Int32) (p2 : Int32) (p3 : Int32) (p4 : Int32) (p5 : Int32) : Option (Int32 × Int32 × (Nat → Int32)) :=
  Option.bind (fX10_size v0_now_tape_size) fun r1 =>
  if (r1 + (20 : Int32)) ≤ (400 : Int32) then
    Option.bind (fX10_append N v0_now_tape_size g0_now_tape_bytes p1) fun r3 =>
    Option.bind (fX10_append N r3.1 r3.2 p2) fun r4 =>
    Option.bind (fX10_append N r4.1 r4.2 p3) fun r5 =>
    Option.bind (fX10_append N r5.1 r5.2 p4) fun r6 =>
    Option.bind (fX10_append N r6.1 r6.2 p5) fun r7 =>
    Option.bind (fX10_size r7.1) fun r8 =>
    some (r8, r7.1, r7.2)
  else
    some ((-1 : Int32), v0_now_tape_size, g0_now_tape_bytes)
set_option maxHeartbeats 4000000 in
set_option maxRecDepth 100000 in
theorem mX11_feed (l : Launch) (D : zG) (a0 : Nat) (a0_now : Nat) (a0_images : Nat) (a0_merges : Nat) (a0_cut : Nat) (a0_index : Nat) (a0_otherIndex : Nat) (a0_readWords : Nat) (a0_triedPattern : Nat) (a0_alike : Nat) (a0_now_tape : Nat) (a0_now_dictionary : Nat) (a0_now_coming : Nat) (a0_now_pattern : Nat) (a0_now_fault : Nat) (a0_now_tape_bytes : Nat) (sz : Nat)  (v0_now_edits : Int32) (v0_now_tape_size : Int32) (g0_now_tape_bytes : Nat → Int32) (p1 : Int32) (p2 : Int32) (p3 : Int32) (p4 : Int32) (p5 : Int32) (N : Nat) (res : Int32 × Int32 × (Nat → Int32)) (hf : fX11_feed N v0_now_tape_size g0_now_tape_bytes p1 p2 p3 p4 p5 = some res) : Met l yX11_feed wsX11_feed ({ frames := 1, cells := 0, slots := 0, locals := 22 } : Room) (va_Pc [.ref a0, .int p1, .int p2, .int p3, .int p4, .int p5] (zW D sz [(a0, .inr (8, [.ref a0_now, .ref a0_images, .ref a0_merges, .ref a0_cut, .ref a0_index, .ref a0_otherIndex, .ref a0_readWords, .ref a0_triedPattern, .ref a0_alike])), (a0_now, .inr (6, [.ref a0_now_tape, .ref a0_now_dictionary, .ref a0_now_coming, .ref a0_now_pattern, .ref a0_now_fault, .int v0_now_edits])), (a0_now_tape, .inr (7, [.ref a0_now_tape_bytes, .int v0_now_tape_size])), (a0_now_tape_bytes, .inl (D.2 0, 400, .inl g0_now_tape_bytes))])) (va_Qi (fun r (_ : Unit) => r = res.1) (fun _ => zB D (va_A [(a0, .inr (8, [.ref a0_now, .ref a0_images, .ref a0_merges, .ref a0_cut, .ref a0_index, .ref a0_otherIndex, .ref a0_readWords, .ref a0_triedPattern, .ref a0_alike])), (a0_now, .inr (6, [.ref a0_now_tape, .ref a0_now_dictionary, .ref a0_now_coming, .ref a0_now_pattern, .ref a0_now_fault, .int v0_now_edits])), (a0_now_tape, .inr (7, [.ref a0_now_tape_bytes, .int v0_now_tape_size])), (a0_now_tape_bytes, .inl (D.2 0, 400, .inl g0_now_tape_bytes))] sz) [(a0, .inr (8, [.ref a0_now, .ref a0_images, .ref a0_merges, .ref a0_cut, .ref a0_index, .ref a0_otherIndex, .ref a0_readWords, .ref a0_triedPattern, .ref a0_alike])), (a0_now, .inr (6, [.ref a0_now_tape, .ref a0_now_dictionary, .ref a0_now_coming, .ref a0_now_pattern, .ref a0_now_fault, .int v0_now_edits])), (a0_now_tape, .inr (7, [.ref a0_now_tape_bytes, .int res.2.1])), (a0_now_tape_bytes, .inl (D.2 0, 400, .inl res.2.2))]) (va_A [(a0, .inr (8, [.ref a0_now, .ref a0_images, .ref a0_merges, .ref a0_cut, .ref a0_index, .ref a0_otherIndex, .ref a0_readWords, .ref a0_triedPattern, .ref a0_alike])), (a0_now, .inr (6, [.ref a0_now_tape, .ref a0_now_dictionary, .ref a0_now_coming, .ref a0_now_pattern, .ref a0_now_fault, .int v0_now_edits])), (a0_now_tape, .inr (7, [.ref a0_now_tape_bytes, .int v0_now_tape_size])), (a0_now_tape_bytes, .inl (D.2 0, 400, .inl g0_now_tape_bytes))] sz)) 0 0 (va_A [(a0, .inr (8, [.ref a0_now, .ref a0_images, .ref a0_merges, .ref a0_cut, .ref a0_index, .ref a0_otherIndex, .ref a0_readWords, .ref a0_triedPattern, .ref a0_alike])), (a0_now, .inr (6, [.ref a0_now_tape, .ref a0_now_dictionary, .ref a0_now_coming, .ref a0_now_pattern, .ref a0_now_fault, .int v0_now_edits])), (a0_now_tape, .inr (7, [.ref a0_now_tape_bytes, .int v0_now_tape_size])), (a0_now_tape_bytes, .inl (D.2 0, 400, .inl g0_now_tape_bytes))] sz) := by
  refine Met.ofW (cc := cX11_feed) (maxL := 7) (ret := (some .int)) (by decide) rfl ?_
  intro p e s m args below meth c s₁ B hml hv
  obtain ⟨rfl, hsz, hP, hK, hD0⟩ := hv
  have hx := B.exec
  have hb := B.bytes
  have hr := B.returns
  have hts := atoms_spec (ws := wsX11_feed) B.pre
  have hown : s.vm.findClass RX11 = some m.cls := findClass_of_methodNamed B.named
  have hlocks := B.notSynchronized
  subst hsz
  have hD := hD0.self (sz := s.heap.size)
  generalize hAe : va_A [(a0, .inr (8, [.ref a0_now, .ref a0_images, .ref a0_merges, .ref a0_cut, .ref a0_index, .ref a0_otherIndex, .ref a0_readWords, .ref a0_triedPattern, .ref a0_alike])), (a0_now, .inr (6, [.ref a0_now_tape, .ref a0_now_dictionary, .ref a0_now_coming, .ref a0_now_pattern, .ref a0_now_fault, .int v0_now_edits])), (a0_now_tape, .inr (7, [.ref a0_now_tape_bytes, .int v0_now_tape_size])), (a0_now_tape_bytes, .inl (D.2 0, 400, .inl g0_now_tape_bytes))] s.heap.size = A at hD ⊢
  have hA : ∀ q : Nat, s.heap.size ≤ q → A q := fun q h => by rw [← hAe]; exact Or.inr h
  have l12 := zat hts 1 (w := .fieldLink RX11 12 "TurnedWords" "now" "LTurnedWords$State;") rfl
  have l73 := zat hts 2 (w := .fieldLink RX11 73 "TurnedWords$State" "tape" "LTurnedWords$Tape;") rfl
  have hwX11 : ∀ w ∈ u_ws RX11 TX11 9, w ∈ wsX11_feed := fun w h => List.mem_cons_of_mem _ (List.mem_append_left _ (List.mem_append_left _ (List.mem_append_right _ h)))
  have hwX9 : ∀ w ∈ u_ws RX9 TX9 6, w ∈ wsX11_feed := fun w h => List.mem_cons_of_mem _ (List.mem_append_left _ (List.mem_append_right _ h))
  have hl := lv_entry ([.ref a0, .int p1, .int p2, .int p3, .int p4, .int p5]) (n := 7) (Nat.le_of_ble_eq_true rfl)
  rw [lg_entry_eq]
  generalize (lg_sl ([.ref a0, .int p1, .int p2, .int p3, .int p4, .int p5]) ++ List.replicate (7 - (lg_sl ([.ref a0, .int p1, .int p2, .int p3, .int p4, .int p5])).length) Slot.unset).toArray = ls at hl ⊢
  have hl : lv_has ls 7 [(0, .ref a0), (1, .int p1), (2, .int p2), (3, .int p3), (4, .int p4), (5, .int p5)] := hl
  refine zStart (A := A) hP (fun Q0 H locs hQ hP hS => ?_)
  unfold fX11_feed at hf
  refine lv_aload_n hx hb dX11_feed_0 rfl (lv_at hl 0 rfl) ?_
  refine va_get (D := D.1) (ci := 8) (v := .ref a0_now) (C := RX11) (T := TX11) (N := 9) hx hb hts hwX11 hown hK.1 hP 0 rfl rfl 0 (by decide) l12 (fun _ h9 => h9) rfl dX11_feed_1 ?_
  refine va_get (D := D.1) (ci := 6) (v := .ref a0_now_tape) (C := RX9) (T := TX9) (N := 6) hx hb hts hwX9 hown hK.1 hP 1 rfl rfl 0 (by decide) l73 (fun _ h9 => h9) rfl dX11_feed_4 ?_
  refine lv_astore (lv' := [(6, .ref a0_now_tape), (0, .ref a0), (1, .int p1), (2, .int p2), (3, .int p3), (4, .int p4), (5, .int p5)]) hx hb dX11_feed_7 hl (by decide) rfl (fun ls hl => ?_)
  refine lv_aload hx hb dX11_feed_9 (lv_at hl 0 rfl) ?_
  obtain ⟨r1, hr1, hf⟩ := bd hf
  refine zVi (As := []) (rest := []) (ci := 7) (q0 := 0) (wn := [(a0, .inr (8, [.ref a0_now, .ref a0_images, .ref a0_merges, .ref a0_cut, .ref a0_index, .ref a0_otherIndex, .ref a0_readWords, .ref a0_triedPattern, .ref a0_alike])), (a0_now, .inr (6, [.ref a0_now_tape, .ref a0_now_dictionary, .ref a0_now_coming, .ref a0_now_pattern, .ref a0_now_fault, .int v0_now_edits])), (a0_now_tape, .inr (7, [.ref a0_now_tape_bytes, .int v0_now_tape_size])), (a0_now_tape_bytes, .inl (D.2 0, 400, .inl g0_now_tape_bytes))]) ⟨hx, hb, hml, hown, hts⟩ (mX10_size l D a0_now_tape a0_now_tape_bytes H.size v0_now_tape_size r1 hr1) (cwV 0 hts gX11_feed_X10_size rfl rfl rfl (by decide +kernel) ⟨Nat.le_of_ble_eq_true rfl, Nat.le_of_ble_eq_true rfl⟩) hK hP hD hS hA [2] [0, 1, 3] [0, 1, 3, 2] rfl (by decide) rfl (by decide) (by decide) rfl (by decide) rfl rfl rfl hl.1 rfl (Nat.le_of_ble_eq_true rfl) dX11_feed_11 ⟨Nat.zero_le _, Nat.zero_le _⟩ (fun H locs hP hD hS => ?_)
  refine lv_bipush (v := 20) hx hb dX11_feed_14 (by decide) ?_
  refine lv_iadd hx hb dX11_feed_16 ?_
  refine lv_sipush (v := 400) hx hb dX11_feed_17 (by decide) ?_
  refine lv_icmp_le (tgt := 25) hx hb dX11_feed_20 (by decide) (fun c_2 => ?_) (fun c_2 => ?_)
  · replace hf := ip c_2 hf
    refine lv_aload hx hb dX11_feed_25 (lv_at hl 0 rfl) ?_
    refine lv_iload_n hx hb dX11_feed_27 rfl (lv_at hl 2 rfl) ?_
    obtain ⟨r3, hr3, hf⟩ := bd hf
    refine zVv (As := [.int p1]) (rest := []) (ci := 7) (q0 := 0) (wn := [(a0, .inr (8, [.ref a0_now, .ref a0_images, .ref a0_merges, .ref a0_cut, .ref a0_index, .ref a0_otherIndex, .ref a0_readWords, .ref a0_triedPattern, .ref a0_alike])), (a0_now, .inr (6, [.ref a0_now_tape, .ref a0_now_dictionary, .ref a0_now_coming, .ref a0_now_pattern, .ref a0_now_fault, .int v0_now_edits])), (a0_now_tape, .inr (7, [.ref a0_now_tape_bytes, .int r3.1])), (a0_now_tape_bytes, .inl (D.2 0, 400, .inl r3.2))]) ⟨hx, hb, hml, hown, hts⟩ (mX10_append l D a0_now_tape a0_now_tape_bytes H.size v0_now_tape_size g0_now_tape_bytes p1 N r3 hr3) (cwV 1 hts gX11_feed_X10_append rfl rfl rfl (by decide +kernel) ⟨Nat.le_of_ble_eq_true rfl, Nat.le_of_ble_eq_true rfl⟩) hK hP hD hS hA [2, 3] [0, 1] [0, 1, 2, 3] rfl (by decide) rfl (by decide) (by decide) rfl (by decide) rfl rfl rfl hl.1 rfl (Nat.le_of_ble_eq_true rfl) dX11_feed_28 ⟨Nat.zero_le _, Nat.zero_le _⟩ (fun H locs hP hD hS => ?_)
    refine lv_aload hx hb dX11_feed_31 (lv_at hl 0 rfl) ?_
    refine lv_iload_n hx hb dX11_feed_33 rfl (lv_at hl 3 rfl) ?_
    obtain ⟨r4, hr4, hf⟩ := bd hf
    refine zVv (As := [.int p2]) (rest := []) (ci := 7) (q0 := 0) (wn := [(a0, .inr (8, [.ref a0_now, .ref a0_images, .ref a0_merges, .ref a0_cut, .ref a0_index, .ref a0_otherIndex, .ref a0_readWords, .ref a0_triedPattern, .ref a0_alike])), (a0_now, .inr (6, [.ref a0_now_tape, .ref a0_now_dictionary, .ref a0_now_coming, .ref a0_now_pattern, .ref a0_now_fault, .int v0_now_edits])), (a0_now_tape, .inr (7, [.ref a0_now_tape_bytes, .int r4.1])), (a0_now_tape_bytes, .inl (D.2 0, 400, .inl r4.2))]) ⟨hx, hb, hml, hown, hts⟩ (mX10_append l D a0_now_tape a0_now_tape_bytes H.size r3.1 r3.2 p2 N r4 hr4) (cwV 1 hts gX11_feed_X10_append rfl rfl rfl (by decide +kernel) ⟨Nat.le_of_ble_eq_true rfl, Nat.le_of_ble_eq_true rfl⟩) hK hP hD hS hA [2, 3] [0, 1] [0, 1, 2, 3] rfl (by decide) rfl (by decide) (by decide) rfl (by decide) rfl rfl rfl hl.1 rfl (Nat.le_of_ble_eq_true rfl) dX11_feed_34 ⟨Nat.zero_le _, Nat.zero_le _⟩ (fun H locs hP hD hS => ?_)
    refine lv_aload hx hb dX11_feed_37 (lv_at hl 0 rfl) ?_
    refine lv_iload_n hx hb dX11_feed_39 rfl (lv_at hl 4 rfl) ?_
    obtain ⟨r5, hr5, hf⟩ := bd hf
    refine zVv (As := [.int p3]) (rest := []) (ci := 7) (q0 := 0) (wn := [(a0, .inr (8, [.ref a0_now, .ref a0_images, .ref a0_merges, .ref a0_cut, .ref a0_index, .ref a0_otherIndex, .ref a0_readWords, .ref a0_triedPattern, .ref a0_alike])), (a0_now, .inr (6, [.ref a0_now_tape, .ref a0_now_dictionary, .ref a0_now_coming, .ref a0_now_pattern, .ref a0_now_fault, .int v0_now_edits])), (a0_now_tape, .inr (7, [.ref a0_now_tape_bytes, .int r5.1])), (a0_now_tape_bytes, .inl (D.2 0, 400, .inl r5.2))]) ⟨hx, hb, hml, hown, hts⟩ (mX10_append l D a0_now_tape a0_now_tape_bytes H.size r4.1 r4.2 p3 N r5 hr5) (cwV 1 hts gX11_feed_X10_append rfl rfl rfl (by decide +kernel) ⟨Nat.le_of_ble_eq_true rfl, Nat.le_of_ble_eq_true rfl⟩) hK hP hD hS hA [2, 3] [0, 1] [0, 1, 2, 3] rfl (by decide) rfl (by decide) (by decide) rfl (by decide) rfl rfl rfl hl.1 rfl (Nat.le_of_ble_eq_true rfl) dX11_feed_40 ⟨Nat.zero_le _, Nat.zero_le _⟩ (fun H locs hP hD hS => ?_)
    refine lv_aload hx hb dX11_feed_43 (lv_at hl 0 rfl) ?_
    refine lv_iload hx hb dX11_feed_45 (lv_at hl 5 rfl) ?_
    obtain ⟨r6, hr6, hf⟩ := bd hf
    refine zVv (As := [.int p4]) (rest := []) (ci := 7) (q0 := 0) (wn := [(a0, .inr (8, [.ref a0_now, .ref a0_images, .ref a0_merges, .ref a0_cut, .ref a0_index, .ref a0_otherIndex, .ref a0_readWords, .ref a0_triedPattern, .ref a0_alike])), (a0_now, .inr (6, [.ref a0_now_tape, .ref a0_now_dictionary, .ref a0_now_coming, .ref a0_now_pattern, .ref a0_now_fault, .int v0_now_edits])), (a0_now_tape, .inr (7, [.ref a0_now_tape_bytes, .int r6.1])), (a0_now_tape_bytes, .inl (D.2 0, 400, .inl r6.2))]) ⟨hx, hb, hml, hown, hts⟩ (mX10_append l D a0_now_tape a0_now_tape_bytes H.size r5.1 r5.2 p4 N r6 hr6) (cwV 1 hts gX11_feed_X10_append rfl rfl rfl (by decide +kernel) ⟨Nat.le_of_ble_eq_true rfl, Nat.le_of_ble_eq_true rfl⟩) hK hP hD hS hA [2, 3] [0, 1] [0, 1, 2, 3] rfl (by decide) rfl (by decide) (by decide) rfl (by decide) rfl rfl rfl hl.1 rfl (Nat.le_of_ble_eq_true rfl) dX11_feed_47 ⟨Nat.zero_le _, Nat.zero_le _⟩ (fun H locs hP hD hS => ?_)
    refine lv_aload hx hb dX11_feed_50 (lv_at hl 0 rfl) ?_
    refine lv_iload hx hb dX11_feed_52 (lv_at hl 6 rfl) ?_
    obtain ⟨r7, hr7, hf⟩ := bd hf
    refine zVv (As := [.int p5]) (rest := []) (ci := 7) (q0 := 0) (wn := [(a0, .inr (8, [.ref a0_now, .ref a0_images, .ref a0_merges, .ref a0_cut, .ref a0_index, .ref a0_otherIndex, .ref a0_readWords, .ref a0_triedPattern, .ref a0_alike])), (a0_now, .inr (6, [.ref a0_now_tape, .ref a0_now_dictionary, .ref a0_now_coming, .ref a0_now_pattern, .ref a0_now_fault, .int v0_now_edits])), (a0_now_tape, .inr (7, [.ref a0_now_tape_bytes, .int r7.1])), (a0_now_tape_bytes, .inl (D.2 0, 400, .inl r7.2))]) ⟨hx, hb, hml, hown, hts⟩ (mX10_append l D a0_now_tape a0_now_tape_bytes H.size r6.1 r6.2 p5 N r7 hr7) (cwV 1 hts gX11_feed_X10_append rfl rfl rfl (by decide +kernel) ⟨Nat.le_of_ble_eq_true rfl, Nat.le_of_ble_eq_true rfl⟩) hK hP hD hS hA [2, 3] [0, 1] [0, 1, 2, 3] rfl (by decide) rfl (by decide) (by decide) rfl (by decide) rfl rfl rfl hl.1 rfl (Nat.le_of_ble_eq_true rfl) dX11_feed_54 ⟨Nat.zero_le _, Nat.zero_le _⟩ (fun H locs hP hD hS => ?_)
    refine lv_aload hx hb dX11_feed_57 (lv_at hl 0 rfl) ?_
    obtain ⟨r8, hr8, hf⟩ := bd hf
    refine zVi (As := []) (rest := []) (ci := 7) (q0 := 0) (wn := [(a0, .inr (8, [.ref a0_now, .ref a0_images, .ref a0_merges, .ref a0_cut, .ref a0_index, .ref a0_otherIndex, .ref a0_readWords, .ref a0_triedPattern, .ref a0_alike])), (a0_now, .inr (6, [.ref a0_now_tape, .ref a0_now_dictionary, .ref a0_now_coming, .ref a0_now_pattern, .ref a0_now_fault, .int v0_now_edits])), (a0_now_tape, .inr (7, [.ref a0_now_tape_bytes, .int r7.1])), (a0_now_tape_bytes, .inl (D.2 0, 400, .inl r7.2))]) ⟨hx, hb, hml, hown, hts⟩ (mX10_size l D a0_now_tape a0_now_tape_bytes H.size r7.1 r8 hr8) (cwV 0 hts gX11_feed_X10_size rfl rfl rfl (by decide +kernel) ⟨Nat.le_of_ble_eq_true rfl, Nat.le_of_ble_eq_true rfl⟩) hK hP hD hS hA [2] [0, 1, 3] [0, 1, 3, 2] rfl (by decide) rfl (by decide) (by decide) rfl (by decide) rfl rfl rfl hl.1 rfl (Nat.le_of_ble_eq_true rfl) dX11_feed_59 ⟨Nat.zero_le _, Nat.zero_le _⟩ (fun H locs hP hD hS => ?_)
    have he := Option.some.inj hf
    rw [hQ]
    exact W.iret (v := r8) hx hb hr (fun t ht hW => by rw [← he]; exact ⟨⟨r8, (), rfl, rfl, by rw [ht]; exact hP, hD⟩, hS.F ht⟩) hS.2.2 dX11_feed_62
  · replace hf := im c_2 hf
    refine lv_iconst (v := -1) hx hb dX11_feed_23 (by decide) ?_
    have he := Option.some.inj hf
    rw [hQ]
    exact W.iret (v := (-1 : Int32)) hx hb hr (fun t ht hW => by rw [← he]; exact ⟨⟨(-1 : Int32), (), rfl, rfl, by rw [ht]; exact hP, hD⟩, hS.F ht⟩) hS.2.2 dX11_feed_24
def fX11_end (v0_now_tape_size : Int32) (p1 : Int32) : Option (Int32 × Int32) :=
  Option.bind (fX10_shorten v0_now_tape_size p1) fun r1 =>
  if r1.1 = (0 : Int32) then
    some ((-1 : Int32), r1.2)
  else
    some (p1, r1.2)
set_option maxHeartbeats 4000000 in
set_option maxRecDepth 100000 in
theorem mX11_end (l : Launch) (D : zG) (a0 : Nat) (a0_now : Nat) (a0_images : Nat) (a0_merges : Nat) (a0_cut : Nat) (a0_index : Nat) (a0_otherIndex : Nat) (a0_readWords : Nat) (a0_triedPattern : Nat) (a0_alike : Nat) (a0_now_tape : Nat) (a0_now_dictionary : Nat) (a0_now_coming : Nat) (a0_now_pattern : Nat) (a0_now_fault : Nat) (a0_now_tape_bytes : Nat) (sz : Nat)  (v0_now_edits : Int32) (v0_now_tape_size : Int32) (p1 : Int32) (res : Int32 × Int32) (hf : fX11_end v0_now_tape_size p1 = some res) : Met l yX11_end wsX11_end ({ frames := 1, cells := 0, slots := 0, locals := 21 } : Room) (va_Pc [.ref a0, .int p1] (zW D sz [(a0, .inr (8, [.ref a0_now, .ref a0_images, .ref a0_merges, .ref a0_cut, .ref a0_index, .ref a0_otherIndex, .ref a0_readWords, .ref a0_triedPattern, .ref a0_alike])), (a0_now, .inr (6, [.ref a0_now_tape, .ref a0_now_dictionary, .ref a0_now_coming, .ref a0_now_pattern, .ref a0_now_fault, .int v0_now_edits])), (a0_now_tape, .inr (7, [.ref a0_now_tape_bytes, .int v0_now_tape_size]))])) (va_Qi (fun r (_ : Unit) => r = res.1) (fun _ => zB D (va_A [(a0, .inr (8, [.ref a0_now, .ref a0_images, .ref a0_merges, .ref a0_cut, .ref a0_index, .ref a0_otherIndex, .ref a0_readWords, .ref a0_triedPattern, .ref a0_alike])), (a0_now, .inr (6, [.ref a0_now_tape, .ref a0_now_dictionary, .ref a0_now_coming, .ref a0_now_pattern, .ref a0_now_fault, .int v0_now_edits])), (a0_now_tape, .inr (7, [.ref a0_now_tape_bytes, .int v0_now_tape_size]))] sz) [(a0, .inr (8, [.ref a0_now, .ref a0_images, .ref a0_merges, .ref a0_cut, .ref a0_index, .ref a0_otherIndex, .ref a0_readWords, .ref a0_triedPattern, .ref a0_alike])), (a0_now, .inr (6, [.ref a0_now_tape, .ref a0_now_dictionary, .ref a0_now_coming, .ref a0_now_pattern, .ref a0_now_fault, .int v0_now_edits])), (a0_now_tape, .inr (7, [.ref a0_now_tape_bytes, .int res.2]))]) (va_A [(a0, .inr (8, [.ref a0_now, .ref a0_images, .ref a0_merges, .ref a0_cut, .ref a0_index, .ref a0_otherIndex, .ref a0_readWords, .ref a0_triedPattern, .ref a0_alike])), (a0_now, .inr (6, [.ref a0_now_tape, .ref a0_now_dictionary, .ref a0_now_coming, .ref a0_now_pattern, .ref a0_now_fault, .int v0_now_edits])), (a0_now_tape, .inr (7, [.ref a0_now_tape_bytes, .int v0_now_tape_size]))] sz)) 0 0 (va_A [(a0, .inr (8, [.ref a0_now, .ref a0_images, .ref a0_merges, .ref a0_cut, .ref a0_index, .ref a0_otherIndex, .ref a0_readWords, .ref a0_triedPattern, .ref a0_alike])), (a0_now, .inr (6, [.ref a0_now_tape, .ref a0_now_dictionary, .ref a0_now_coming, .ref a0_now_pattern, .ref a0_now_fault, .int v0_now_edits])), (a0_now_tape, .inr (7, [.ref a0_now_tape_bytes, .int v0_now_tape_size]))] sz) := by
  refine Met.ofW (cc := cX11_end) (maxL := 2) (ret := (some .int)) (by decide) rfl ?_
  intro p e s m args below meth c s₁ B hml hv
  obtain ⟨rfl, hsz, hP, hK, hD0⟩ := hv
  have hx := B.exec
  have hb := B.bytes
  have hr := B.returns
  have hts := atoms_spec (ws := wsX11_end) B.pre
  have hown : s.vm.findClass RX11 = some m.cls := findClass_of_methodNamed B.named
  have hlocks := B.notSynchronized
  subst hsz
  have hD := hD0.self (sz := s.heap.size)
  generalize hAe : va_A [(a0, .inr (8, [.ref a0_now, .ref a0_images, .ref a0_merges, .ref a0_cut, .ref a0_index, .ref a0_otherIndex, .ref a0_readWords, .ref a0_triedPattern, .ref a0_alike])), (a0_now, .inr (6, [.ref a0_now_tape, .ref a0_now_dictionary, .ref a0_now_coming, .ref a0_now_pattern, .ref a0_now_fault, .int v0_now_edits])), (a0_now_tape, .inr (7, [.ref a0_now_tape_bytes, .int v0_now_tape_size]))] s.heap.size = A at hD ⊢
  have hA : ∀ q : Nat, s.heap.size ≤ q → A q := fun q h => by rw [← hAe]; exact Or.inr h
  have l12 := zat hts 1 (w := .fieldLink RX11 12 "TurnedWords" "now" "LTurnedWords$State;") rfl
  have l73 := zat hts 2 (w := .fieldLink RX11 73 "TurnedWords$State" "tape" "LTurnedWords$Tape;") rfl
  have hwX11 : ∀ w ∈ u_ws RX11 TX11 9, w ∈ wsX11_end := fun w h => List.mem_cons_of_mem _ (List.mem_append_left _ (List.mem_append_left _ (List.mem_append_right _ h)))
  have hwX9 : ∀ w ∈ u_ws RX9 TX9 6, w ∈ wsX11_end := fun w h => List.mem_cons_of_mem _ (List.mem_append_left _ (List.mem_append_right _ h))
  have hl := lv_entry ([.ref a0, .int p1]) (n := 2) (Nat.le_of_ble_eq_true rfl)
  rw [lg_entry_eq]
  generalize (lg_sl ([.ref a0, .int p1]) ++ List.replicate (2 - (lg_sl ([.ref a0, .int p1])).length) Slot.unset).toArray = ls at hl ⊢
  have hl : lv_has ls 2 [(0, .ref a0), (1, .int p1)] := hl
  refine zStart (A := A) hP (fun Q0 H locs hQ hP hS => ?_)
  unfold fX11_end at hf
  refine lv_aload_n hx hb dX11_end_0 rfl (lv_at hl 0 rfl) ?_
  refine va_get (D := D.1) (ci := 8) (v := .ref a0_now) (C := RX11) (T := TX11) (N := 9) hx hb hts hwX11 hown hK.1 hP 0 rfl rfl 0 (by decide) l12 (fun _ h9 => h9) rfl dX11_end_1 ?_
  refine va_get (D := D.1) (ci := 6) (v := .ref a0_now_tape) (C := RX9) (T := TX9) (N := 6) hx hb hts hwX9 hown hK.1 hP 1 rfl rfl 0 (by decide) l73 (fun _ h9 => h9) rfl dX11_end_4 ?_
  refine lv_iload_n hx hb dX11_end_7 rfl (lv_at hl 1 rfl) ?_
  obtain ⟨r1, hr1, hf⟩ := bd hf
  refine zVz (As := [.int p1]) (rest := []) (ci := 7) (q0 := 0) (wn := [(a0, .inr (8, [.ref a0_now, .ref a0_images, .ref a0_merges, .ref a0_cut, .ref a0_index, .ref a0_otherIndex, .ref a0_readWords, .ref a0_triedPattern, .ref a0_alike])), (a0_now, .inr (6, [.ref a0_now_tape, .ref a0_now_dictionary, .ref a0_now_coming, .ref a0_now_pattern, .ref a0_now_fault, .int v0_now_edits])), (a0_now_tape, .inr (7, [.ref a0_now_tape_bytes, .int r1.2]))]) ⟨hx, hb, hml, hown, hts⟩ (mX10_shorten l D a0_now_tape a0_now_tape_bytes H.size v0_now_tape_size p1 r1 hr1) (cwV 1 hts gX11_end_X10_shorten rfl rfl rfl (by decide +kernel) ⟨Nat.le_of_ble_eq_true rfl, Nat.le_of_ble_eq_true rfl⟩) hK hP hD hS hA [2] [0, 1] [0, 1, 2] rfl (by decide) rfl (by decide) (by decide) rfl (by decide) rfl rfl rfl hl.1 rfl (Nat.le_of_ble_eq_true rfl) dX11_end_8 ⟨Nat.zero_le _, Nat.zero_le _⟩ (fun H locs hb_2 hP hD hS => ?_)
  refine lv_if_eq (tgt := 18) hx hb dX11_end_11 (by decide) (fun c_3 => ?_) (fun c_3 => ?_)
  · replace hf := ip c_3 hf
    refine lv_iconst (v := -1) hx hb dX11_end_18 (by decide) ?_
    have he := Option.some.inj hf
    rw [hQ]
    exact W.iret (v := (-1 : Int32)) hx hb hr (fun t ht hW => by rw [← he]; exact ⟨⟨(-1 : Int32), (), rfl, rfl, by rw [ht]; exact hP, hD⟩, hS.F ht⟩) hS.2.2 dX11_end_19
  · replace hf := im c_3 hf
    refine lv_iload_n hx hb dX11_end_14 rfl (lv_at hl 1 rfl) ?_
    refine lv_goto (tgt := 19) hx hb dX11_end_15 (by decide) ?_
    have he := Option.some.inj hf
    rw [hQ]
    exact W.iret (v := p1) hx hb hr (fun t ht hW => by rw [← he]; exact ⟨⟨p1, (), rfl, rfl, by rw [ht]; exact hP, hD⟩, hS.F ht⟩) hS.2.2 dX11_end_19
def fX11_pattern_61 (N : Nat) (g0_now_tape_bytes : Nat → Int32) (v0_now_tape_size : Int32) (v0_now_pattern_size : Int32) (g0_now_pattern_signs : Nat → Int32) (v0_now_fault_kind : Int32) (v0_now_fault_place : Int32) (v0_cut_size : Int32) (v0_cut_runs : Int32) (v0_cut_pieces : Int32) (v0_cut_inRun : Int32) (g0_cut_signs : Nat → Int32) (g0_cut_starts : Nat → Int32) (g0_cut_lengths : Nat → Int32) (g0_cut_piecesOfRuns : Nat → Int32) (g0_cut_heads : Nat → Int64) : Option (Int32 × Int32 × Int32 × (Nat → Int32) × Int32 × Int32 × Int32 × Int32 × Int32 × Int32 × (Nat → Int32) × (Nat → Int32) × (Nat → Int32) × (Nat → Int32) × (Nat → Int64)) :=
  Option.bind (fX10_shorten v0_now_tape_size (0 : Int32)) fun r7 =>
  Option.bind (fX2_isThere v0_now_fault_kind) fun r9 =>
  if r9 = (0 : Int32) then
    Option.bind (fX1_pieces v0_cut_pieces) fun r12 =>
    some (r12, r7.2, v0_now_pattern_size, g0_now_pattern_signs, v0_now_fault_kind, v0_now_fault_place, v0_cut_size, v0_cut_runs, v0_cut_pieces, v0_cut_inRun, g0_cut_signs, g0_cut_starts, g0_cut_lengths, g0_cut_piecesOfRuns, g0_cut_heads)
  else
    some ((-1 : Int32), r7.2, v0_now_pattern_size, g0_now_pattern_signs, v0_now_fault_kind, v0_now_fault_place, v0_cut_size, v0_cut_runs, v0_cut_pieces, v0_cut_inRun, g0_cut_signs, g0_cut_starts, g0_cut_lengths, g0_cut_piecesOfRuns, g0_cut_heads)
def fX11_pattern (N : Nat) (v0_now_tape_size : Int32) (g0_now_tape_bytes : Nat → Int32) (v0_now_pattern_size : Int32) (g0_now_pattern_signs : Nat → Int32) (v0_now_fault_kind : Int32) (v0_now_fault_place : Int32) (v0_cut_size : Int32) (v0_cut_runs : Int32) (v0_cut_pieces : Int32) (v0_cut_inRun : Int32) (g0_cut_signs : Nat → Int32) (g0_cut_starts : Nat → Int32) (g0_cut_lengths : Nat → Int32) (g0_cut_piecesOfRuns : Nat → Int32) (g0_cut_heads : Nat → Int64) : Option (Int32 × Int32 × Int32 × (Nat → Int32) × Int32 × Int32 × Int32 × Int32 × Int32 × Int32 × (Nat → Int32) × (Nat → Int32) × (Nat → Int32) × (Nat → Int32) × (Nat → Int64)) :=
  Option.bind (fX6_checkPattern N v0_now_tape_size g0_now_tape_bytes v0_now_fault_kind v0_now_fault_place) fun r1 =>
  Option.bind (fX2_isThere r1.1) fun r2 =>
  if r2 = (0 : Int32) then
    Option.bind (fX5_take N v0_now_pattern_size g0_now_pattern_signs v0_now_tape_size g0_now_tape_bytes) fun r5 =>
    Option.bind (fX1_lay N v0_cut_size v0_cut_runs v0_cut_pieces v0_cut_inRun g0_cut_signs g0_cut_starts g0_cut_lengths g0_cut_piecesOfRuns g0_cut_heads r5.1 r5.2) fun r6 =>
    fX11_pattern_61 N g0_now_tape_bytes v0_now_tape_size r5.1 r5.2 r1.1 r1.2 r6.1 r6.2.1 r6.2.2.1 r6.2.2.2.1 r6.2.2.2.2.1 r6.2.2.2.2.2.1 r6.2.2.2.2.2.2.1 r6.2.2.2.2.2.2.2.1 r6.2.2.2.2.2.2.2.2
  else
    fX11_pattern_61 N g0_now_tape_bytes v0_now_tape_size v0_now_pattern_size g0_now_pattern_signs r1.1 r1.2 v0_cut_size v0_cut_runs v0_cut_pieces v0_cut_inRun g0_cut_signs g0_cut_starts g0_cut_lengths g0_cut_piecesOfRuns g0_cut_heads
set_option maxHeartbeats 4000000 in
set_option maxRecDepth 100000 in
theorem mX11_pattern (l : Launch) (D : zG) (a0 : Nat) (a0_now : Nat) (a0_images : Nat) (a0_merges : Nat) (a0_cut : Nat) (a0_index : Nat) (a0_otherIndex : Nat) (a0_readWords : Nat) (a0_triedPattern : Nat) (a0_alike : Nat) (a0_now_tape : Nat) (a0_now_dictionary : Nat) (a0_now_coming : Nat) (a0_now_pattern : Nat) (a0_now_fault : Nat) (a0_now_tape_bytes : Nat) (a0_now_pattern_signs : Nat) (a0_cut_signs : Nat) (a0_cut_starts : Nat) (a0_cut_lengths : Nat) (a0_cut_piecesOfRuns : Nat) (a0_cut_heads : Nat) (sz : Nat)  (v0_now_edits : Int32) (v0_now_tape_size : Int32) (g0_now_tape_bytes : Nat → Int32) (v0_now_pattern_size : Int32) (g0_now_pattern_signs : Nat → Int32) (v0_now_fault_kind : Int32) (v0_now_fault_place : Int32) (v0_cut_size : Int32) (v0_cut_runs : Int32) (v0_cut_pieces : Int32) (v0_cut_inRun : Int32) (g0_cut_signs : Nat → Int32) (g0_cut_starts : Nat → Int32) (g0_cut_lengths : Nat → Int32) (g0_cut_piecesOfRuns : Nat → Int32) (g0_cut_heads : Nat → Int64)  (N : Nat) (res : Int32 × Int32 × Int32 × (Nat → Int32) × Int32 × Int32 × Int32 × Int32 × Int32 × Int32 × (Nat → Int32) × (Nat → Int32) × (Nat → Int32) × (Nat → Int32) × (Nat → Int64)) (hf : fX11_pattern N v0_now_tape_size g0_now_tape_bytes v0_now_pattern_size g0_now_pattern_signs v0_now_fault_kind v0_now_fault_place v0_cut_size v0_cut_runs v0_cut_pieces v0_cut_inRun g0_cut_signs g0_cut_starts g0_cut_lengths g0_cut_piecesOfRuns g0_cut_heads = some res) : Met l yX11_pattern wsX11_pattern ({ frames := 5, cells := 0, slots := 0, locals := 113 } : Room) (va_Pc [.ref a0] (zW D sz [(a0, .inr (8, [.ref a0_now, .ref a0_images, .ref a0_merges, .ref a0_cut, .ref a0_index, .ref a0_otherIndex, .ref a0_readWords, .ref a0_triedPattern, .ref a0_alike])), (a0_now, .inr (6, [.ref a0_now_tape, .ref a0_now_dictionary, .ref a0_now_coming, .ref a0_now_pattern, .ref a0_now_fault, .int v0_now_edits])), (a0_now_tape, .inr (7, [.ref a0_now_tape_bytes, .int v0_now_tape_size])), (a0_now_tape_bytes, .inl (D.2 0, 400, .inl g0_now_tape_bytes)), (a0_now_pattern, .inr (4, [.ref a0_now_pattern_signs, .int v0_now_pattern_size])), (a0_now_pattern_signs, .inl (D.2 1, 12, .inl g0_now_pattern_signs)), (a0_now_fault, .inr (1, [.int v0_now_fault_kind, .int v0_now_fault_place])), (a0_cut, .inr (0, [.ref a0_cut_signs, .ref a0_cut_starts, .ref a0_cut_lengths, .ref a0_cut_piecesOfRuns, .ref a0_cut_heads, .int v0_cut_size, .int v0_cut_runs, .int v0_cut_pieces, .int v0_cut_inRun])), (a0_cut_signs, .inl (D.2 1, 13, .inl g0_cut_signs)), (a0_cut_starts, .inl (D.2 1, 13, .inl g0_cut_starts)), (a0_cut_lengths, .inl (D.2 1, 13, .inl g0_cut_lengths)), (a0_cut_piecesOfRuns, .inl (D.2 1, 13, .inl g0_cut_piecesOfRuns)), (a0_cut_heads, .inl (D.2 2, 13, .inr (.inl g0_cut_heads)))])) (va_Qi (fun r (_ : Unit) => r = res.1) (fun _ => zB D (va_A [(a0, .inr (8, [.ref a0_now, .ref a0_images, .ref a0_merges, .ref a0_cut, .ref a0_index, .ref a0_otherIndex, .ref a0_readWords, .ref a0_triedPattern, .ref a0_alike])), (a0_now, .inr (6, [.ref a0_now_tape, .ref a0_now_dictionary, .ref a0_now_coming, .ref a0_now_pattern, .ref a0_now_fault, .int v0_now_edits])), (a0_now_tape, .inr (7, [.ref a0_now_tape_bytes, .int v0_now_tape_size])), (a0_now_tape_bytes, .inl (D.2 0, 400, .inl g0_now_tape_bytes)), (a0_now_pattern, .inr (4, [.ref a0_now_pattern_signs, .int v0_now_pattern_size])), (a0_now_pattern_signs, .inl (D.2 1, 12, .inl g0_now_pattern_signs)), (a0_now_fault, .inr (1, [.int v0_now_fault_kind, .int v0_now_fault_place])), (a0_cut, .inr (0, [.ref a0_cut_signs, .ref a0_cut_starts, .ref a0_cut_lengths, .ref a0_cut_piecesOfRuns, .ref a0_cut_heads, .int v0_cut_size, .int v0_cut_runs, .int v0_cut_pieces, .int v0_cut_inRun])), (a0_cut_signs, .inl (D.2 1, 13, .inl g0_cut_signs)), (a0_cut_starts, .inl (D.2 1, 13, .inl g0_cut_starts)), (a0_cut_lengths, .inl (D.2 1, 13, .inl g0_cut_lengths)), (a0_cut_piecesOfRuns, .inl (D.2 1, 13, .inl g0_cut_piecesOfRuns)), (a0_cut_heads, .inl (D.2 2, 13, .inr (.inl g0_cut_heads)))] sz) [(a0, .inr (8, [.ref a0_now, .ref a0_images, .ref a0_merges, .ref a0_cut, .ref a0_index, .ref a0_otherIndex, .ref a0_readWords, .ref a0_triedPattern, .ref a0_alike])), (a0_now, .inr (6, [.ref a0_now_tape, .ref a0_now_dictionary, .ref a0_now_coming, .ref a0_now_pattern, .ref a0_now_fault, .int v0_now_edits])), (a0_now_tape, .inr (7, [.ref a0_now_tape_bytes, .int res.2.1])), (a0_now_tape_bytes, .inl (D.2 0, 400, .inl g0_now_tape_bytes)), (a0_now_pattern, .inr (4, [.ref a0_now_pattern_signs, .int res.2.2.1])), (a0_now_pattern_signs, .inl (D.2 1, 12, .inl res.2.2.2.1)), (a0_now_fault, .inr (1, [.int res.2.2.2.2.1, .int res.2.2.2.2.2.1])), (a0_cut, .inr (0, [.ref a0_cut_signs, .ref a0_cut_starts, .ref a0_cut_lengths, .ref a0_cut_piecesOfRuns, .ref a0_cut_heads, .int res.2.2.2.2.2.2.1, .int res.2.2.2.2.2.2.2.1, .int res.2.2.2.2.2.2.2.2.1, .int res.2.2.2.2.2.2.2.2.2.1])), (a0_cut_signs, .inl (D.2 1, 13, .inl res.2.2.2.2.2.2.2.2.2.2.1)), (a0_cut_starts, .inl (D.2 1, 13, .inl res.2.2.2.2.2.2.2.2.2.2.2.1)), (a0_cut_lengths, .inl (D.2 1, 13, .inl res.2.2.2.2.2.2.2.2.2.2.2.2.1)), (a0_cut_piecesOfRuns, .inl (D.2 1, 13, .inl res.2.2.2.2.2.2.2.2.2.2.2.2.2.1)), (a0_cut_heads, .inl (D.2 2, 13, .inr (.inl res.2.2.2.2.2.2.2.2.2.2.2.2.2.2)))]) (va_A [(a0, .inr (8, [.ref a0_now, .ref a0_images, .ref a0_merges, .ref a0_cut, .ref a0_index, .ref a0_otherIndex, .ref a0_readWords, .ref a0_triedPattern, .ref a0_alike])), (a0_now, .inr (6, [.ref a0_now_tape, .ref a0_now_dictionary, .ref a0_now_coming, .ref a0_now_pattern, .ref a0_now_fault, .int v0_now_edits])), (a0_now_tape, .inr (7, [.ref a0_now_tape_bytes, .int v0_now_tape_size])), (a0_now_tape_bytes, .inl (D.2 0, 400, .inl g0_now_tape_bytes)), (a0_now_pattern, .inr (4, [.ref a0_now_pattern_signs, .int v0_now_pattern_size])), (a0_now_pattern_signs, .inl (D.2 1, 12, .inl g0_now_pattern_signs)), (a0_now_fault, .inr (1, [.int v0_now_fault_kind, .int v0_now_fault_place])), (a0_cut, .inr (0, [.ref a0_cut_signs, .ref a0_cut_starts, .ref a0_cut_lengths, .ref a0_cut_piecesOfRuns, .ref a0_cut_heads, .int v0_cut_size, .int v0_cut_runs, .int v0_cut_pieces, .int v0_cut_inRun])), (a0_cut_signs, .inl (D.2 1, 13, .inl g0_cut_signs)), (a0_cut_starts, .inl (D.2 1, 13, .inl g0_cut_starts)), (a0_cut_lengths, .inl (D.2 1, 13, .inl g0_cut_lengths)), (a0_cut_piecesOfRuns, .inl (D.2 1, 13, .inl g0_cut_piecesOfRuns)), (a0_cut_heads, .inl (D.2 2, 13, .inr (.inl g0_cut_heads)))] sz)) 0 0 (va_A [(a0, .inr (8, [.ref a0_now, .ref a0_images, .ref a0_merges, .ref a0_cut, .ref a0_index, .ref a0_otherIndex, .ref a0_readWords, .ref a0_triedPattern, .ref a0_alike])), (a0_now, .inr (6, [.ref a0_now_tape, .ref a0_now_dictionary, .ref a0_now_coming, .ref a0_now_pattern, .ref a0_now_fault, .int v0_now_edits])), (a0_now_tape, .inr (7, [.ref a0_now_tape_bytes, .int v0_now_tape_size])), (a0_now_tape_bytes, .inl (D.2 0, 400, .inl g0_now_tape_bytes)), (a0_now_pattern, .inr (4, [.ref a0_now_pattern_signs, .int v0_now_pattern_size])), (a0_now_pattern_signs, .inl (D.2 1, 12, .inl g0_now_pattern_signs)), (a0_now_fault, .inr (1, [.int v0_now_fault_kind, .int v0_now_fault_place])), (a0_cut, .inr (0, [.ref a0_cut_signs, .ref a0_cut_starts, .ref a0_cut_lengths, .ref a0_cut_piecesOfRuns, .ref a0_cut_heads, .int v0_cut_size, .int v0_cut_runs, .int v0_cut_pieces, .int v0_cut_inRun])), (a0_cut_signs, .inl (D.2 1, 13, .inl g0_cut_signs)), (a0_cut_starts, .inl (D.2 1, 13, .inl g0_cut_starts)), (a0_cut_lengths, .inl (D.2 1, 13, .inl g0_cut_lengths)), (a0_cut_piecesOfRuns, .inl (D.2 1, 13, .inl g0_cut_piecesOfRuns)), (a0_cut_heads, .inl (D.2 2, 13, .inr (.inl g0_cut_heads)))] sz) := by
  refine Met.ofW (cc := cX11_pattern) (maxL := 1) (ret := (some .int)) (by decide) rfl ?_
  intro p e s m args below meth c s₁ B hml hv
  obtain ⟨rfl, hsz, hP, hK, hD0⟩ := hv
  have hx := B.exec
  have hb := B.bytes
  have hr := B.returns
  have hts := atoms_spec (ws := wsX11_pattern) B.pre
  have hown : s.vm.findClass RX11 = some m.cls := findClass_of_methodNamed B.named
  have hlocks := B.notSynchronized
  subst hsz
  have hD := hD0.self (sz := s.heap.size)
  generalize hAe : va_A [(a0, .inr (8, [.ref a0_now, .ref a0_images, .ref a0_merges, .ref a0_cut, .ref a0_index, .ref a0_otherIndex, .ref a0_readWords, .ref a0_triedPattern, .ref a0_alike])), (a0_now, .inr (6, [.ref a0_now_tape, .ref a0_now_dictionary, .ref a0_now_coming, .ref a0_now_pattern, .ref a0_now_fault, .int v0_now_edits])), (a0_now_tape, .inr (7, [.ref a0_now_tape_bytes, .int v0_now_tape_size])), (a0_now_tape_bytes, .inl (D.2 0, 400, .inl g0_now_tape_bytes)), (a0_now_pattern, .inr (4, [.ref a0_now_pattern_signs, .int v0_now_pattern_size])), (a0_now_pattern_signs, .inl (D.2 1, 12, .inl g0_now_pattern_signs)), (a0_now_fault, .inr (1, [.int v0_now_fault_kind, .int v0_now_fault_place])), (a0_cut, .inr (0, [.ref a0_cut_signs, .ref a0_cut_starts, .ref a0_cut_lengths, .ref a0_cut_piecesOfRuns, .ref a0_cut_heads, .int v0_cut_size, .int v0_cut_runs, .int v0_cut_pieces, .int v0_cut_inRun])), (a0_cut_signs, .inl (D.2 1, 13, .inl g0_cut_signs)), (a0_cut_starts, .inl (D.2 1, 13, .inl g0_cut_starts)), (a0_cut_lengths, .inl (D.2 1, 13, .inl g0_cut_lengths)), (a0_cut_piecesOfRuns, .inl (D.2 1, 13, .inl g0_cut_piecesOfRuns)), (a0_cut_heads, .inl (D.2 2, 13, .inr (.inl g0_cut_heads)))] s.heap.size = A at hD ⊢
  have hA : ∀ q : Nat, s.heap.size ≤ q → A q := fun q h => by rw [← hAe]; exact Or.inr h
  have l12 := zat hts 1 (w := .fieldLink RX11 12 "TurnedWords" "now" "LTurnedWords$State;") rfl
  have l73 := zat hts 2 (w := .fieldLink RX11 73 "TurnedWords$State" "tape" "LTurnedWords$Tape;") rfl
  have l90 := zat hts 3 (w := .fieldLink RX11 90 "TurnedWords$State" "fault" "LTurnedWords$Fault;") rfl
  have l34 := zat hts 4 (w := .fieldLink RX11 34 "TurnedWords$State" "pattern" "LTurnedWords$Pattern;") rfl
  have l30 := zat hts 5 (w := .fieldLink RX11 30 "TurnedWords" "cut" "LTurnedWords$Cut;") rfl
  have hwX11 : ∀ w ∈ u_ws RX11 TX11 9, w ∈ wsX11_pattern := fun w h => List.mem_cons_of_mem _ (List.mem_append_left _ (List.mem_append_left _ (List.mem_append_left _ (List.mem_append_left _ (List.mem_append_left _ (List.mem_append_right _ h))))))
  have hwX9 : ∀ w ∈ u_ws RX9 TX9 6, w ∈ wsX11_pattern := fun w h => List.mem_cons_of_mem _ (List.mem_append_left _ (List.mem_append_left _ (List.mem_append_left _ (List.mem_append_left _ (List.mem_append_right _ h)))))
  have hl := lv_entry ([.ref a0]) (n := 1) (Nat.le_of_ble_eq_true rfl)
  rw [lg_entry_eq]
  generalize (lg_sl ([.ref a0]) ++ List.replicate (1 - (lg_sl ([.ref a0])).length) Slot.unset).toArray = ls at hl ⊢
  have hl : lv_has ls 1 [(0, .ref a0)] := hl
  refine zStart (A := A) hP (fun Q0 H locs hQ hP hS => ?_)
  have k61 : ∀ (v0_now_tape_size : Int32) (v0_now_pattern_size : Int32) (g0_now_pattern_signs : Nat → Int32) (v0_now_fault_kind : Int32) (v0_now_fault_place : Int32) (v0_cut_size : Int32) (v0_cut_runs : Int32) (v0_cut_pieces : Int32) (v0_cut_inRun : Int32) (g0_cut_signs : Nat → Int32) (g0_cut_starts : Nat → Int32) (g0_cut_lengths : Nat → Int32) (g0_cut_piecesOfRuns : Nat → Int32) (g0_cut_heads : Nat → Int64) (H : Heap) (locs : List Loc) (ls : Array Slot), fX11_pattern_61 N g0_now_tape_bytes v0_now_tape_size v0_now_pattern_size g0_now_pattern_signs v0_now_fault_kind v0_now_fault_place v0_cut_size v0_cut_runs v0_cut_pieces v0_cut_inRun g0_cut_signs g0_cut_starts g0_cut_lengths g0_cut_piecesOfRuns g0_cut_heads = some res → va_P D.1 vwCl [(a0, .inr (8, [.ref a0_now, .ref a0_images, .ref a0_merges, .ref a0_cut, .ref a0_index, .ref a0_otherIndex, .ref a0_readWords, .ref a0_triedPattern, .ref a0_alike])), (a0_now, .inr (6, [.ref a0_now_tape, .ref a0_now_dictionary, .ref a0_now_coming, .ref a0_now_pattern, .ref a0_now_fault, .int v0_now_edits])), (a0_now_tape, .inr (7, [.ref a0_now_tape_bytes, .int v0_now_tape_size])), (a0_now_tape_bytes, .inl (D.2 0, 400, .inl g0_now_tape_bytes)), (a0_now_pattern, .inr (4, [.ref a0_now_pattern_signs, .int v0_now_pattern_size])), (a0_now_pattern_signs, .inl (D.2 1, 12, .inl g0_now_pattern_signs)), (a0_now_fault, .inr (1, [.int v0_now_fault_kind, .int v0_now_fault_place])), (a0_cut, .inr (0, [.ref a0_cut_signs, .ref a0_cut_starts, .ref a0_cut_lengths, .ref a0_cut_piecesOfRuns, .ref a0_cut_heads, .int v0_cut_size, .int v0_cut_runs, .int v0_cut_pieces, .int v0_cut_inRun])), (a0_cut_signs, .inl (D.2 1, 13, .inl g0_cut_signs)), (a0_cut_starts, .inl (D.2 1, 13, .inl g0_cut_starts)), (a0_cut_lengths, .inl (D.2 1, 13, .inl g0_cut_lengths)), (a0_cut_piecesOfRuns, .inl (D.2 1, 13, .inl g0_cut_piecesOfRuns)), (a0_cut_heads, .inl (D.2 2, 13, .inr (.inl g0_cut_heads)))] H → va_D A [(a0, .inr (8, [.ref a0_now, .ref a0_images, .ref a0_merges, .ref a0_cut, .ref a0_index, .ref a0_otherIndex, .ref a0_readWords, .ref a0_triedPattern, .ref a0_alike])), (a0_now, .inr (6, [.ref a0_now_tape, .ref a0_now_dictionary, .ref a0_now_coming, .ref a0_now_pattern, .ref a0_now_fault, .int v0_now_edits])), (a0_now_tape, .inr (7, [.ref a0_now_tape_bytes, .int v0_now_tape_size])), (a0_now_tape_bytes, .inl (D.2 0, 400, .inl g0_now_tape_bytes)), (a0_now_pattern, .inr (4, [.ref a0_now_pattern_signs, .int v0_now_pattern_size])), (a0_now_pattern_signs, .inl (D.2 1, 12, .inl g0_now_pattern_signs)), (a0_now_fault, .inr (1, [.int v0_now_fault_kind, .int v0_now_fault_place])), (a0_cut, .inr (0, [.ref a0_cut_signs, .ref a0_cut_starts, .ref a0_cut_lengths, .ref a0_cut_piecesOfRuns, .ref a0_cut_heads, .int v0_cut_size, .int v0_cut_runs, .int v0_cut_pieces, .int v0_cut_inRun])), (a0_cut_signs, .inl (D.2 1, 13, .inl g0_cut_signs)), (a0_cut_starts, .inl (D.2 1, 13, .inl g0_cut_starts)), (a0_cut_lengths, .inl (D.2 1, 13, .inl g0_cut_lengths)), (a0_cut_piecesOfRuns, .inl (D.2 1, 13, .inl g0_cut_piecesOfRuns)), (a0_cut_heads, .inl (D.2 2, 13, .inr (.inl g0_cut_heads)))] → va_S A s.heap H locs → lv_has ls 1 [(0, .ref a0)] → W p l e (headSpec wsX11_pattern ({ frames := 5, cells := 0, slots := 0, locals := 113 } : Room)).room s m ([.ref a0] : List Value).toArray below meth c H locs 0 0 Q0 (F0 m 61 ls []) := by
    intro v0_now_tape_size v0_now_pattern_size g0_now_pattern_signs v0_now_fault_kind v0_now_fault_place v0_cut_size v0_cut_runs v0_cut_pieces v0_cut_inRun g0_cut_signs g0_cut_starts g0_cut_lengths g0_cut_piecesOfRuns g0_cut_heads H locs ls hf hP hD hS hl
    unfold fX11_pattern_61 at hf
    refine lv_aload_n hx hb dX11_pattern_61 rfl (lv_at hl 0 rfl) ?_
    refine va_get (D := D.1) (ci := 8) (v := .ref a0_now) (C := RX11) (T := TX11) (N := 9) hx hb hts hwX11 hown hK.1 hP 0 rfl rfl 0 (by decide) l12 (fun _ h9 => h9) rfl dX11_pattern_62 ?_
    refine va_get (D := D.1) (ci := 6) (v := .ref a0_now_tape) (C := RX9) (T := TX9) (N := 6) hx hb hts hwX9 hown hK.1 hP 1 rfl rfl 0 (by decide) l73 (fun _ h9 => h9) rfl dX11_pattern_65 ?_
    refine lv_iconst (v := 0) hx hb dX11_pattern_68 (by decide) ?_
    obtain ⟨r7, hr7, hf⟩ := bd hf
    refine zVz (As := [.int (0 : Int32)]) (rest := []) (ci := 7) (q0 := 0) (wn := [(a0, .inr (8, [.ref a0_now, .ref a0_images, .ref a0_merges, .ref a0_cut, .ref a0_index, .ref a0_otherIndex, .ref a0_readWords, .ref a0_triedPattern, .ref a0_alike])), (a0_now, .inr (6, [.ref a0_now_tape, .ref a0_now_dictionary, .ref a0_now_coming, .ref a0_now_pattern, .ref a0_now_fault, .int v0_now_edits])), (a0_now_tape, .inr (7, [.ref a0_now_tape_bytes, .int r7.2])), (a0_now_tape_bytes, .inl (D.2 0, 400, .inl g0_now_tape_bytes)), (a0_now_pattern, .inr (4, [.ref a0_now_pattern_signs, .int v0_now_pattern_size])), (a0_now_pattern_signs, .inl (D.2 1, 12, .inl g0_now_pattern_signs)), (a0_now_fault, .inr (1, [.int v0_now_fault_kind, .int v0_now_fault_place])), (a0_cut, .inr (0, [.ref a0_cut_signs, .ref a0_cut_starts, .ref a0_cut_lengths, .ref a0_cut_piecesOfRuns, .ref a0_cut_heads, .int v0_cut_size, .int v0_cut_runs, .int v0_cut_pieces, .int v0_cut_inRun])), (a0_cut_signs, .inl (D.2 1, 13, .inl g0_cut_signs)), (a0_cut_starts, .inl (D.2 1, 13, .inl g0_cut_starts)), (a0_cut_lengths, .inl (D.2 1, 13, .inl g0_cut_lengths)), (a0_cut_piecesOfRuns, .inl (D.2 1, 13, .inl g0_cut_piecesOfRuns)), (a0_cut_heads, .inl (D.2 2, 13, .inr (.inl g0_cut_heads)))]) ⟨hx, hb, hml, hown, hts⟩ (mX10_shorten l D a0_now_tape a0_now_tape_bytes H.size v0_now_tape_size (0 : Int32) r7 hr7) (cwV 1 hts gX11_pattern_X10_shorten rfl rfl rfl (by decide +kernel) ⟨Nat.le_of_ble_eq_true rfl, Nat.le_of_ble_eq_true rfl⟩) hK hP hD hS hA [2] [0, 1, 3, 4, 5, 6, 7, 8, 9, 10, 11, 12] [0, 1, 12, 2, 3, 4, 5, 6, 7, 8, 9, 10, 11] rfl (by decide) rfl (by decide) (by decide) rfl (by decide) rfl rfl rfl hl.1 rfl (Nat.le_of_ble_eq_true rfl) dX11_pattern_69 ⟨Nat.zero_le _, Nat.zero_le _⟩ (fun H locs hb_8 hP hD hS => ?_)
    refine lv_pop hx hb dX11_pattern_72 rfl ?_
    refine lv_aload_n hx hb dX11_pattern_73 rfl (lv_at hl 0 rfl) ?_
    refine va_get (D := D.1) (ci := 8) (v := .ref a0_now) (C := RX11) (T := TX11) (N := 9) hx hb hts hwX11 hown hK.1 hP 0 rfl rfl 0 (by decide) l12 (fun _ h9 => h9) rfl dX11_pattern_74 ?_
    refine va_get (D := D.1) (ci := 6) (v := .ref a0_now_fault) (C := RX9) (T := TX9) (N := 6) hx hb hts hwX9 hown hK.1 hP 1 rfl rfl 4 (by decide) l90 (fun _ h9 => h9) rfl dX11_pattern_77 ?_
    obtain ⟨r9, hr9, hf⟩ := bd hf
    refine zVz (As := []) (rest := []) (ci := 1) (q0 := 0) (wn := [(a0, .inr (8, [.ref a0_now, .ref a0_images, .ref a0_merges, .ref a0_cut, .ref a0_index, .ref a0_otherIndex, .ref a0_readWords, .ref a0_triedPattern, .ref a0_alike])), (a0_now, .inr (6, [.ref a0_now_tape, .ref a0_now_dictionary, .ref a0_now_coming, .ref a0_now_pattern, .ref a0_now_fault, .int v0_now_edits])), (a0_now_tape, .inr (7, [.ref a0_now_tape_bytes, .int r7.2])), (a0_now_tape_bytes, .inl (D.2 0, 400, .inl g0_now_tape_bytes)), (a0_now_pattern, .inr (4, [.ref a0_now_pattern_signs, .int v0_now_pattern_size])), (a0_now_pattern_signs, .inl (D.2 1, 12, .inl g0_now_pattern_signs)), (a0_now_fault, .inr (1, [.int v0_now_fault_kind, .int v0_now_fault_place])), (a0_cut, .inr (0, [.ref a0_cut_signs, .ref a0_cut_starts, .ref a0_cut_lengths, .ref a0_cut_piecesOfRuns, .ref a0_cut_heads, .int v0_cut_size, .int v0_cut_runs, .int v0_cut_pieces, .int v0_cut_inRun])), (a0_cut_signs, .inl (D.2 1, 13, .inl g0_cut_signs)), (a0_cut_starts, .inl (D.2 1, 13, .inl g0_cut_starts)), (a0_cut_lengths, .inl (D.2 1, 13, .inl g0_cut_lengths)), (a0_cut_piecesOfRuns, .inl (D.2 1, 13, .inl g0_cut_piecesOfRuns)), (a0_cut_heads, .inl (D.2 2, 13, .inr (.inl g0_cut_heads)))]) ⟨hx, hb, hml, hown, hts⟩ (mX2_isThere l D a0_now_fault H.size v0_now_fault_kind v0_now_fault_place r9 hr9) (cwV 0 hts gX11_pattern_X2_isThere rfl rfl rfl (by decide +kernel) ⟨Nat.le_of_ble_eq_true rfl, Nat.le_of_ble_eq_true rfl⟩) hK hP hD hS hA [6] [0, 1, 2, 3, 4, 5, 7, 8, 9, 10, 11, 12] [0, 1, 2, 3, 4, 5, 12, 6, 7, 8, 9, 10, 11] rfl (by decide) rfl (by decide) (by decide) rfl (by decide) rfl rfl rfl hl.1 rfl (Nat.le_of_ble_eq_true rfl) dX11_pattern_80 ⟨Nat.zero_le _, Nat.zero_le _⟩ (fun H locs hb_10 hP hD hS => ?_)
    refine lv_if_eq (tgt := 90) hx hb dX11_pattern_83 (by decide) (fun c_11 => ?_) (fun c_11 => ?_)
    · replace hf := ip c_11 hf
      refine lv_aload_n hx hb dX11_pattern_90 rfl (lv_at hl 0 rfl) ?_
      refine va_get (D := D.1) (ci := 8) (v := .ref a0_cut) (C := RX11) (T := TX11) (N := 9) hx hb hts hwX11 hown hK.1 hP 0 rfl rfl 3 (by decide) l30 (fun _ h9 => h9) rfl dX11_pattern_91 ?_
      obtain ⟨r12, hr12, hf⟩ := bd hf
      refine zVi (As := []) (rest := []) (ci := 0) (q0 := 0) (wn := [(a0, .inr (8, [.ref a0_now, .ref a0_images, .ref a0_merges, .ref a0_cut, .ref a0_index, .ref a0_otherIndex, .ref a0_readWords, .ref a0_triedPattern, .ref a0_alike])), (a0_now, .inr (6, [.ref a0_now_tape, .ref a0_now_dictionary, .ref a0_now_coming, .ref a0_now_pattern, .ref a0_now_fault, .int v0_now_edits])), (a0_now_tape, .inr (7, [.ref a0_now_tape_bytes, .int r7.2])), (a0_now_tape_bytes, .inl (D.2 0, 400, .inl g0_now_tape_bytes)), (a0_now_pattern, .inr (4, [.ref a0_now_pattern_signs, .int v0_now_pattern_size])), (a0_now_pattern_signs, .inl (D.2 1, 12, .inl g0_now_pattern_signs)), (a0_now_fault, .inr (1, [.int v0_now_fault_kind, .int v0_now_fault_place])), (a0_cut, .inr (0, [.ref a0_cut_signs, .ref a0_cut_starts, .ref a0_cut_lengths, .ref a0_cut_piecesOfRuns, .ref a0_cut_heads, .int v0_cut_size, .int v0_cut_runs, .int v0_cut_pieces, .int v0_cut_inRun])), (a0_cut_signs, .inl (D.2 1, 13, .inl g0_cut_signs)), (a0_cut_starts, .inl (D.2 1, 13, .inl g0_cut_starts)), (a0_cut_lengths, .inl (D.2 1, 13, .inl g0_cut_lengths)), (a0_cut_piecesOfRuns, .inl (D.2 1, 13, .inl g0_cut_piecesOfRuns)), (a0_cut_heads, .inl (D.2 2, 13, .inr (.inl g0_cut_heads)))]) ⟨hx, hb, hml, hown, hts⟩ (mX1_pieces l D a0_cut a0_cut_signs a0_cut_starts a0_cut_lengths a0_cut_piecesOfRuns a0_cut_heads H.size v0_cut_size v0_cut_runs v0_cut_pieces v0_cut_inRun r12 hr12) (cwV 0 hts gX11_pattern_X1_pieces rfl rfl rfl (by decide +kernel) ⟨Nat.le_of_ble_eq_true rfl, Nat.le_of_ble_eq_true rfl⟩) hK hP hD hS hA [7] [0, 1, 2, 3, 4, 5, 6, 8, 9, 10, 11, 12] [0, 1, 2, 3, 4, 5, 6, 12, 7, 8, 9, 10, 11] rfl (by decide) rfl (by decide) (by decide) rfl (by decide) rfl rfl rfl hl.1 rfl (Nat.le_of_ble_eq_true rfl) dX11_pattern_94 ⟨Nat.zero_le _, Nat.zero_le _⟩ (fun H locs hP hD hS => ?_)
      have he := Option.some.inj hf
      rw [hQ]
      exact W.iret (v := r12) hx hb hr (fun t ht hW => by rw [← he]; exact ⟨⟨r12, (), rfl, rfl, by rw [ht]; exact hP, hD⟩, hS.F ht⟩) hS.2.2 dX11_pattern_97
    · replace hf := im c_11 hf
      refine lv_iconst (v := -1) hx hb dX11_pattern_86 (by decide) ?_
      refine lv_goto (tgt := 97) hx hb dX11_pattern_87 (by decide) ?_
      have he := Option.some.inj hf
      rw [hQ]
      exact W.iret (v := (-1 : Int32)) hx hb hr (fun t ht hW => by rw [← he]; exact ⟨⟨(-1 : Int32), (), rfl, rfl, by rw [ht]; exact hP, hD⟩, hS.F ht⟩) hS.2.2 dX11_pattern_97
  unfold fX11_pattern at hf
  refine lv_aload_n hx hb dX11_pattern_0 rfl (lv_at hl 0 rfl) ?_
  refine va_get (D := D.1) (ci := 8) (v := .ref a0_now) (C := RX11) (T := TX11) (N := 9) hx hb hts hwX11 hown hK.1 hP 0 rfl rfl 0 (by decide) l12 (fun _ h9 => h9) rfl dX11_pattern_1 ?_
  refine va_get (D := D.1) (ci := 6) (v := .ref a0_now_tape) (C := RX9) (T := TX9) (N := 6) hx hb hts hwX9 hown hK.1 hP 1 rfl rfl 0 (by decide) l73 (fun _ h9 => h9) rfl dX11_pattern_4 ?_
  refine lv_aload_n hx hb dX11_pattern_7 rfl (lv_at hl 0 rfl) ?_
  refine va_get (D := D.1) (ci := 8) (v := .ref a0_now) (C := RX11) (T := TX11) (N := 9) hx hb hts hwX11 hown hK.1 hP 0 rfl rfl 0 (by decide) l12 (fun _ h9 => h9) rfl dX11_pattern_8 ?_
  refine va_get (D := D.1) (ci := 6) (v := .ref a0_now_fault) (C := RX9) (T := TX9) (N := 6) hx hb hts hwX9 hown hK.1 hP 1 rfl rfl 4 (by decide) l90 (fun _ h9 => h9) rfl dX11_pattern_11 ?_
  obtain ⟨r1, hr1, hf⟩ := bd hf
  refine zSv (As := [.ref a0_now_tape, .ref a0_now_fault]) (rest := []) (wn := [(a0, .inr (8, [.ref a0_now, .ref a0_images, .ref a0_merges, .ref a0_cut, .ref a0_index, .ref a0_otherIndex, .ref a0_readWords, .ref a0_triedPattern, .ref a0_alike])), (a0_now, .inr (6, [.ref a0_now_tape, .ref a0_now_dictionary, .ref a0_now_coming, .ref a0_now_pattern, .ref a0_now_fault, .int v0_now_edits])), (a0_now_tape, .inr (7, [.ref a0_now_tape_bytes, .int v0_now_tape_size])), (a0_now_tape_bytes, .inl (D.2 0, 400, .inl g0_now_tape_bytes)), (a0_now_pattern, .inr (4, [.ref a0_now_pattern_signs, .int v0_now_pattern_size])), (a0_now_pattern_signs, .inl (D.2 1, 12, .inl g0_now_pattern_signs)), (a0_now_fault, .inr (1, [.int r1.1, .int r1.2])), (a0_cut, .inr (0, [.ref a0_cut_signs, .ref a0_cut_starts, .ref a0_cut_lengths, .ref a0_cut_piecesOfRuns, .ref a0_cut_heads, .int v0_cut_size, .int v0_cut_runs, .int v0_cut_pieces, .int v0_cut_inRun])), (a0_cut_signs, .inl (D.2 1, 13, .inl g0_cut_signs)), (a0_cut_starts, .inl (D.2 1, 13, .inl g0_cut_starts)), (a0_cut_lengths, .inl (D.2 1, 13, .inl g0_cut_lengths)), (a0_cut_piecesOfRuns, .inl (D.2 1, 13, .inl g0_cut_piecesOfRuns)), (a0_cut_heads, .inl (D.2 2, 13, .inr (.inl g0_cut_heads)))]) ⟨hx, hb, hml, hown, hts⟩ (mX6_checkPattern l D a0_now_tape a0_now_tape_bytes a0_now_fault H.size v0_now_tape_size g0_now_tape_bytes v0_now_fault_kind v0_now_fault_place N r1 hr1) (va_cwS 2 hts gX11_pattern_X6_checkPattern rfl rfl rfl (by decide +kernel) ⟨Nat.le_of_ble_eq_true rfl, Nat.le_of_ble_eq_true rfl⟩) hK hP hD hS hA [2, 3, 6] [0, 1, 4, 5, 7, 8, 9, 10, 11, 12] [0, 1, 10, 11, 2, 3, 12, 4, 5, 6, 7, 8, 9] rfl (by decide) rfl (by decide) (by decide) rfl (by decide) rfl hl.1 rfl (Nat.le_of_ble_eq_true rfl) dX11_pattern_14 ⟨Nat.zero_le _, Nat.zero_le _⟩ (fun H locs hP hD hS => ?_)
  refine lv_aload_n hx hb dX11_pattern_17 rfl (lv_at hl 0 rfl) ?_
  refine va_get (D := D.1) (ci := 8) (v := .ref a0_now) (C := RX11) (T := TX11) (N := 9) hx hb hts hwX11 hown hK.1 hP 0 rfl rfl 0 (by decide) l12 (fun _ h9 => h9) rfl dX11_pattern_18 ?_
  refine va_get (D := D.1) (ci := 6) (v := .ref a0_now_fault) (C := RX9) (T := TX9) (N := 6) hx hb hts hwX9 hown hK.1 hP 1 rfl rfl 4 (by decide) l90 (fun _ h9 => h9) rfl dX11_pattern_21 ?_
  obtain ⟨r2, hr2, hf⟩ := bd hf
  refine zVz (As := []) (rest := []) (ci := 1) (q0 := 0) (wn := [(a0, .inr (8, [.ref a0_now, .ref a0_images, .ref a0_merges, .ref a0_cut, .ref a0_index, .ref a0_otherIndex, .ref a0_readWords, .ref a0_triedPattern, .ref a0_alike])), (a0_now, .inr (6, [.ref a0_now_tape, .ref a0_now_dictionary, .ref a0_now_coming, .ref a0_now_pattern, .ref a0_now_fault, .int v0_now_edits])), (a0_now_tape, .inr (7, [.ref a0_now_tape_bytes, .int v0_now_tape_size])), (a0_now_tape_bytes, .inl (D.2 0, 400, .inl g0_now_tape_bytes)), (a0_now_pattern, .inr (4, [.ref a0_now_pattern_signs, .int v0_now_pattern_size])), (a0_now_pattern_signs, .inl (D.2 1, 12, .inl g0_now_pattern_signs)), (a0_now_fault, .inr (1, [.int r1.1, .int r1.2])), (a0_cut, .inr (0, [.ref a0_cut_signs, .ref a0_cut_starts, .ref a0_cut_lengths, .ref a0_cut_piecesOfRuns, .ref a0_cut_heads, .int v0_cut_size, .int v0_cut_runs, .int v0_cut_pieces, .int v0_cut_inRun])), (a0_cut_signs, .inl (D.2 1, 13, .inl g0_cut_signs)), (a0_cut_starts, .inl (D.2 1, 13, .inl g0_cut_starts)), (a0_cut_lengths, .inl (D.2 1, 13, .inl g0_cut_lengths)), (a0_cut_piecesOfRuns, .inl (D.2 1, 13, .inl g0_cut_piecesOfRuns)), (a0_cut_heads, .inl (D.2 2, 13, .inr (.inl g0_cut_heads)))]) ⟨hx, hb, hml, hown, hts⟩ (mX2_isThere l D a0_now_fault H.size r1.1 r1.2 r2 hr2) (cwV 0 hts gX11_pattern_X2_isThere rfl rfl rfl (by decide +kernel) ⟨Nat.le_of_ble_eq_true rfl, Nat.le_of_ble_eq_true rfl⟩) hK hP hD hS hA [6] [0, 1, 2, 3, 4, 5, 7, 8, 9, 10, 11, 12] [0, 1, 2, 3, 4, 5, 12, 6, 7, 8, 9, 10, 11] rfl (by decide) rfl (by decide) (by decide) rfl (by decide) rfl rfl rfl hl.1 rfl (Nat.le_of_ble_eq_true rfl) dX11_pattern_24 ⟨Nat.zero_le _, Nat.zero_le _⟩ (fun H locs hb_3 hP hD hS => ?_)
  refine lv_if_ne (tgt := 61) hx hb dX11_pattern_27 (by decide) (fun c_4 => ?_) (fun c_4 => ?_)
  · replace hf := im c_4 hf
    exact k61 v0_now_tape_size v0_now_pattern_size g0_now_pattern_signs r1.1 r1.2 v0_cut_size v0_cut_runs v0_cut_pieces v0_cut_inRun g0_cut_signs g0_cut_starts g0_cut_lengths g0_cut_piecesOfRuns g0_cut_heads H locs ls hf hP hD hS hl
  · replace hf := ip c_4 hf
    refine lv_aload_n hx hb dX11_pattern_30 rfl (lv_at hl 0 rfl) ?_
    refine va_get (D := D.1) (ci := 8) (v := .ref a0_now) (C := RX11) (T := TX11) (N := 9) hx hb hts hwX11 hown hK.1 hP 0 rfl rfl 0 (by decide) l12 (fun _ h9 => h9) rfl dX11_pattern_31 ?_
    refine va_get (D := D.1) (ci := 6) (v := .ref a0_now_pattern) (C := RX9) (T := TX9) (N := 6) hx hb hts hwX9 hown hK.1 hP 1 rfl rfl 3 (by decide) l34 (fun _ h9 => h9) rfl dX11_pattern_34 ?_
    refine lv_aload_n hx hb dX11_pattern_37 rfl (lv_at hl 0 rfl) ?_
    refine va_get (D := D.1) (ci := 8) (v := .ref a0_now) (C := RX11) (T := TX11) (N := 9) hx hb hts hwX11 hown hK.1 hP 0 rfl rfl 0 (by decide) l12 (fun _ h9 => h9) rfl dX11_pattern_38 ?_
    refine va_get (D := D.1) (ci := 6) (v := .ref a0_now_tape) (C := RX9) (T := TX9) (N := 6) hx hb hts hwX9 hown hK.1 hP 1 rfl rfl 0 (by decide) l73 (fun _ h9 => h9) rfl dX11_pattern_41 ?_
    obtain ⟨r5, hr5, hf⟩ := bd hf
    refine zVv (As := [.ref a0_now_tape]) (rest := []) (ci := 4) (q0 := 0) (wn := [(a0, .inr (8, [.ref a0_now, .ref a0_images, .ref a0_merges, .ref a0_cut, .ref a0_index, .ref a0_otherIndex, .ref a0_readWords, .ref a0_triedPattern, .ref a0_alike])), (a0_now, .inr (6, [.ref a0_now_tape, .ref a0_now_dictionary, .ref a0_now_coming, .ref a0_now_pattern, .ref a0_now_fault, .int v0_now_edits])), (a0_now_tape, .inr (7, [.ref a0_now_tape_bytes, .int v0_now_tape_size])), (a0_now_tape_bytes, .inl (D.2 0, 400, .inl g0_now_tape_bytes)), (a0_now_pattern, .inr (4, [.ref a0_now_pattern_signs, .int r5.1])), (a0_now_pattern_signs, .inl (D.2 1, 12, .inl r5.2)), (a0_now_fault, .inr (1, [.int r1.1, .int r1.2])), (a0_cut, .inr (0, [.ref a0_cut_signs, .ref a0_cut_starts, .ref a0_cut_lengths, .ref a0_cut_piecesOfRuns, .ref a0_cut_heads, .int v0_cut_size, .int v0_cut_runs, .int v0_cut_pieces, .int v0_cut_inRun])), (a0_cut_signs, .inl (D.2 1, 13, .inl g0_cut_signs)), (a0_cut_starts, .inl (D.2 1, 13, .inl g0_cut_starts)), (a0_cut_lengths, .inl (D.2 1, 13, .inl g0_cut_lengths)), (a0_cut_piecesOfRuns, .inl (D.2 1, 13, .inl g0_cut_piecesOfRuns)), (a0_cut_heads, .inl (D.2 2, 13, .inr (.inl g0_cut_heads)))]) ⟨hx, hb, hml, hown, hts⟩ (mX5_take l D a0_now_pattern a0_now_pattern_signs a0_now_tape a0_now_tape_bytes H.size v0_now_pattern_size g0_now_pattern_signs v0_now_tape_size g0_now_tape_bytes N r5 hr5) (cwV 1 hts gX11_pattern_X5_take rfl rfl rfl (by decide +kernel) ⟨Nat.le_of_ble_eq_true rfl, Nat.le_of_ble_eq_true rfl⟩) hK hP hD hS hA [4, 5, 2, 3] [0, 1, 6, 7, 8, 9, 10, 11, 12] [0, 1, 11, 12, 9, 10, 2, 3, 4, 5, 6, 7, 8] rfl (by decide) rfl (by decide) (by decide) rfl (by decide) rfl rfl rfl hl.1 rfl (Nat.le_of_ble_eq_true rfl) dX11_pattern_44 ⟨Nat.zero_le _, Nat.zero_le _⟩ (fun H locs hP hD hS => ?_)
    refine lv_aload_n hx hb dX11_pattern_47 rfl (lv_at hl 0 rfl) ?_
    refine va_get (D := D.1) (ci := 8) (v := .ref a0_cut) (C := RX11) (T := TX11) (N := 9) hx hb hts hwX11 hown hK.1 hP 0 rfl rfl 3 (by decide) l30 (fun _ h9 => h9) rfl dX11_pattern_48 ?_
    refine lv_aload_n hx hb dX11_pattern_51 rfl (lv_at hl 0 rfl) ?_
    refine va_get (D := D.1) (ci := 8) (v := .ref a0_now) (C := RX11) (T := TX11) (N := 9) hx hb hts hwX11 hown hK.1 hP 0 rfl rfl 0 (by decide) l12 (fun _ h9 => h9) rfl dX11_pattern_52 ?_
    refine va_get (D := D.1) (ci := 6) (v := .ref a0_now_pattern) (C := RX9) (T := TX9) (N := 6) hx hb hts hwX9 hown hK.1 hP 1 rfl rfl 3 (by decide) l34 (fun _ h9 => h9) rfl dX11_pattern_55 ?_
    obtain ⟨r6, hr6, hf⟩ := bd hf
    refine zVv (As := [.ref a0_now_pattern]) (rest := []) (ci := 0) (q0 := 0) (wn := [(a0, .inr (8, [.ref a0_now, .ref a0_images, .ref a0_merges, .ref a0_cut, .ref a0_index, .ref a0_otherIndex, .ref a0_readWords, .ref a0_triedPattern, .ref a0_alike])), (a0_now, .inr (6, [.ref a0_now_tape, .ref a0_now_dictionary, .ref a0_now_coming, .ref a0_now_pattern, .ref a0_now_fault, .int v0_now_edits])), (a0_now_tape, .inr (7, [.ref a0_now_tape_bytes, .int v0_now_tape_size])), (a0_now_tape_bytes, .inl (D.2 0, 400, .inl g0_now_tape_bytes)), (a0_now_pattern, .inr (4, [.ref a0_now_pattern_signs, .int r5.1])), (a0_now_pattern_signs, .inl (D.2 1, 12, .inl r5.2)), (a0_now_fault, .inr (1, [.int r1.1, .int r1.2])), (a0_cut, .inr (0, [.ref a0_cut_signs, .ref a0_cut_starts, .ref a0_cut_lengths, .ref a0_cut_piecesOfRuns, .ref a0_cut_heads, .int r6.1, .int r6.2.1, .int r6.2.2.1, .int r6.2.2.2.1])), (a0_cut_signs, .inl (D.2 1, 13, .inl r6.2.2.2.2.1)), (a0_cut_starts, .inl (D.2 1, 13, .inl r6.2.2.2.2.2.1)), (a0_cut_lengths, .inl (D.2 1, 13, .inl r6.2.2.2.2.2.2.1)), (a0_cut_piecesOfRuns, .inl (D.2 1, 13, .inl r6.2.2.2.2.2.2.2.1)), (a0_cut_heads, .inl (D.2 2, 13, .inr (.inl r6.2.2.2.2.2.2.2.2)))]) ⟨hx, hb, hml, hown, hts⟩ (mX1_lay l D a0_cut a0_cut_signs a0_cut_starts a0_cut_lengths a0_cut_piecesOfRuns a0_cut_heads a0_now_pattern a0_now_pattern_signs H.size v0_cut_size v0_cut_runs v0_cut_pieces v0_cut_inRun g0_cut_signs g0_cut_starts g0_cut_lengths g0_cut_piecesOfRuns g0_cut_heads r5.1 r5.2 N r6 hr6) (cwV 1 hts gX11_pattern_X1_lay rfl rfl rfl (by decide +kernel) ⟨Nat.le_of_ble_eq_true rfl, Nat.le_of_ble_eq_true rfl⟩) hK hP hD hS hA [7, 8, 9, 10, 11, 12, 4, 5] [0, 1, 2, 3, 6] [0, 1, 2, 3, 11, 12, 4, 5, 6, 7, 8, 9, 10] rfl (by decide) rfl (by decide) (by decide) rfl (by decide) rfl rfl rfl hl.1 rfl (Nat.le_of_ble_eq_true rfl) dX11_pattern_58 ⟨Nat.zero_le _, Nat.zero_le _⟩ (fun H locs hP hD hS => ?_)
    exact k61 v0_now_tape_size r5.1 r5.2 r1.1 r1.2 r6.1 r6.2.1 r6.2.2.1 r6.2.2.2.1 r6.2.2.2.2.1 r6.2.2.2.2.2.1 r6.2.2.2.2.2.2.1 r6.2.2.2.2.2.2.2.1 r6.2.2.2.2.2.2.2.2 H locs ls hf hP hD hS hl
def fX11_fault (v0_now_fault_kind : Int32) (v0_now_fault_place : Int32) (p1 : Int32) : Option (Int32) :=
  if p1 = 0 then
    some (v0_now_fault_kind)
  else if p1 = 1 then
    some (v0_now_fault_place)
  else
    some ((-1 : Int32))
set_option maxHeartbeats 4000000 in
set_option maxRecDepth 100000 in
theorem mX11_fault (l : Launch) (D : zG) (a0 : Nat) (a0_now : Nat) (a0_images : Nat) (a0_merges : Nat) (a0_cut : Nat) (a0_index : Nat) (a0_otherIndex : Nat) (a0_readWords : Nat) (a0_triedPattern : Nat) (a0_alike : Nat) (a0_now_tape : Nat) (a0_now_dictionary : Nat) (a0_now_coming : Nat) (a0_now_pattern : Nat) (a0_now_fault : Nat) (sz : Nat)  (v0_now_edits : Int32) (v0_now_fault_kind : Int32) (v0_now_fault_place : Int32) (p1 : Int32) (res : Int32) (hf : fX11_fault v0_now_fault_kind v0_now_fault_place p1 = some res) : Met l yX11_fault wsX11_fault ({ frames := 0, cells := 0, slots := 0, locals := 0 } : Room) (va_Pc [.ref a0, .int p1] (zW D sz [(a0, .inr (8, [.ref a0_now, .ref a0_images, .ref a0_merges, .ref a0_cut, .ref a0_index, .ref a0_otherIndex, .ref a0_readWords, .ref a0_triedPattern, .ref a0_alike])), (a0_now, .inr (6, [.ref a0_now_tape, .ref a0_now_dictionary, .ref a0_now_coming, .ref a0_now_pattern, .ref a0_now_fault, .int v0_now_edits])), (a0_now_fault, .inr (1, [.int v0_now_fault_kind, .int v0_now_fault_place]))])) (va_Qi (fun r (_ : Unit) => r = res) (fun _ => zB D (va_A [(a0, .inr (8, [.ref a0_now, .ref a0_images, .ref a0_merges, .ref a0_cut, .ref a0_index, .ref a0_otherIndex, .ref a0_readWords, .ref a0_triedPattern, .ref a0_alike])), (a0_now, .inr (6, [.ref a0_now_tape, .ref a0_now_dictionary, .ref a0_now_coming, .ref a0_now_pattern, .ref a0_now_fault, .int v0_now_edits])), (a0_now_fault, .inr (1, [.int v0_now_fault_kind, .int v0_now_fault_place]))] sz) [(a0, .inr (8, [.ref a0_now, .ref a0_images, .ref a0_merges, .ref a0_cut, .ref a0_index, .ref a0_otherIndex, .ref a0_readWords, .ref a0_triedPattern, .ref a0_alike])), (a0_now, .inr (6, [.ref a0_now_tape, .ref a0_now_dictionary, .ref a0_now_coming, .ref a0_now_pattern, .ref a0_now_fault, .int v0_now_edits])), (a0_now_fault, .inr (1, [.int v0_now_fault_kind, .int v0_now_fault_place]))]) (va_A [(a0, .inr (8, [.ref a0_now, .ref a0_images, .ref a0_merges, .ref a0_cut, .ref a0_index, .ref a0_otherIndex, .ref a0_readWords, .ref a0_triedPattern, .ref a0_alike])), (a0_now, .inr (6, [.ref a0_now_tape, .ref a0_now_dictionary, .ref a0_now_coming, .ref a0_now_pattern, .ref a0_now_fault, .int v0_now_edits])), (a0_now_fault, .inr (1, [.int v0_now_fault_kind, .int v0_now_fault_place]))] sz)) 0 0 (va_A [(a0, .inr (8, [.ref a0_now, .ref a0_images, .ref a0_merges, .ref a0_cut, .ref a0_index, .ref a0_otherIndex, .ref a0_readWords, .ref a0_triedPattern, .ref a0_alike])), (a0_now, .inr (6, [.ref a0_now_tape, .ref a0_now_dictionary, .ref a0_now_coming, .ref a0_now_pattern, .ref a0_now_fault, .int v0_now_edits])), (a0_now_fault, .inr (1, [.int v0_now_fault_kind, .int v0_now_fault_place]))] sz) := by
  refine Met.ofW (cc := cX11_fault) (maxL := 2) (ret := (some .int)) (by decide) rfl ?_
  intro p e s m args below meth c s₁ B hml hv
  obtain ⟨rfl, hsz, hP, hK, hD0⟩ := hv
  have hx := B.exec
  have hb := B.bytes
  have hr := B.returns
  have hts := atoms_spec (ws := wsX11_fault) B.pre
  have hown : s.vm.findClass RX11 = some m.cls := findClass_of_methodNamed B.named
  have hlocks := B.notSynchronized
  subst hsz
  have hD := hD0.self (sz := s.heap.size)
  generalize hAe : va_A [(a0, .inr (8, [.ref a0_now, .ref a0_images, .ref a0_merges, .ref a0_cut, .ref a0_index, .ref a0_otherIndex, .ref a0_readWords, .ref a0_triedPattern, .ref a0_alike])), (a0_now, .inr (6, [.ref a0_now_tape, .ref a0_now_dictionary, .ref a0_now_coming, .ref a0_now_pattern, .ref a0_now_fault, .int v0_now_edits])), (a0_now_fault, .inr (1, [.int v0_now_fault_kind, .int v0_now_fault_place]))] s.heap.size = A at hD ⊢
  have hA : ∀ q : Nat, s.heap.size ≤ q → A q := fun q h => by rw [← hAe]; exact Or.inr h
  have l12 := zat hts 1 (w := .fieldLink RX11 12 "TurnedWords" "now" "LTurnedWords$State;") rfl
  have l90 := zat hts 2 (w := .fieldLink RX11 90 "TurnedWords$State" "fault" "LTurnedWords$Fault;") rfl
  have l127 := zat hts 3 (w := .fieldLink RX11 127 "TurnedWords$Fault" "kind" "I") rfl
  have l131 := zat hts 4 (w := .fieldLink RX11 131 "TurnedWords$Fault" "place" "I") rfl
  have hwX11 : ∀ w ∈ u_ws RX11 TX11 9, w ∈ wsX11_fault := fun w h => List.mem_cons_of_mem _ (List.mem_append_left _ (List.mem_append_left _ (List.mem_append_right _ h)))
  have hwX9 : ∀ w ∈ u_ws RX9 TX9 6, w ∈ wsX11_fault := fun w h => List.mem_cons_of_mem _ (List.mem_append_left _ (List.mem_append_right _ h))
  have hwX2 : ∀ w ∈ u_ws RX2 TX2 2, w ∈ wsX11_fault := fun w h => List.mem_cons_of_mem _ (List.mem_append_right _ h)
  have hl := lv_entry ([.ref a0, .int p1]) (n := 2) (Nat.le_of_ble_eq_true rfl)
  rw [lg_entry_eq]
  generalize (lg_sl ([.ref a0, .int p1]) ++ List.replicate (2 - (lg_sl ([.ref a0, .int p1])).length) Slot.unset).toArray = ls at hl ⊢
  have hl : lv_has ls 2 [(0, .ref a0), (1, .int p1)] := hl
  refine zStart (A := A) hP (fun Q0 H locs hQ hP hS => ?_)
  unfold fX11_fault at hf
  refine lv_iload_n hx hb dX11_fault_0 rfl (lv_at hl 1 rfl) ?_
  by_cases c_1 : p1 = 0
  · replace hf := ip c_1 hf
    refine lv_lookup (tgt := 28) hx hb dX11_fault_1 (by decide) (off := 27) (by rw [c_1]; rfl) (by decide) ?_
    refine lv_aload_n hx hb dX11_fault_28 rfl (lv_at hl 0 rfl) ?_
    refine va_get (D := D.1) (ci := 8) (v := .ref a0_now) (C := RX11) (T := TX11) (N := 9) hx hb hts hwX11 hown hK.1 hP 0 rfl rfl 0 (by decide) l12 (fun _ h9 => h9) rfl dX11_fault_29 ?_
    refine va_get (D := D.1) (ci := 6) (v := .ref a0_now_fault) (C := RX9) (T := TX9) (N := 6) hx hb hts hwX9 hown hK.1 hP 1 rfl rfl 4 (by decide) l90 (fun _ h9 => h9) rfl dX11_fault_32 ?_
    refine va_get (D := D.1) (ci := 1) (v := .int v0_now_fault_kind) (C := RX2) (T := TX2) (N := 2) hx hb hts hwX2 hown hK.1 hP 2 rfl rfl 0 (by decide) l127 (fun _ h9 => h9) rfl dX11_fault_35 ?_
    have he := Option.some.inj hf
    rw [hQ]
    exact W.iret (v := v0_now_fault_kind) hx hb hr (fun t ht hW => by rw [← he]; exact ⟨⟨v0_now_fault_kind, (), rfl, rfl, by rw [ht]; exact hP, hD⟩, hS.F ht⟩) hS.2.2 dX11_fault_38
  replace hf := im c_1 hf
  by_cases c_2 : p1 = 1
  · replace hf := ip c_2 hf
    refine lv_lookup (tgt := 39) hx hb dX11_fault_1 (by decide) (off := 38) (by rw [c_2]; rfl) (by decide) ?_
    refine lv_aload_n hx hb dX11_fault_39 rfl (lv_at hl 0 rfl) ?_
    refine va_get (D := D.1) (ci := 8) (v := .ref a0_now) (C := RX11) (T := TX11) (N := 9) hx hb hts hwX11 hown hK.1 hP 0 rfl rfl 0 (by decide) l12 (fun _ h9 => h9) rfl dX11_fault_40 ?_
    refine va_get (D := D.1) (ci := 6) (v := .ref a0_now_fault) (C := RX9) (T := TX9) (N := 6) hx hb hts hwX9 hown hK.1 hP 1 rfl rfl 4 (by decide) l90 (fun _ h9 => h9) rfl dX11_fault_43 ?_
    refine va_get (D := D.1) (ci := 1) (v := .int v0_now_fault_place) (C := RX2) (T := TX2) (N := 2) hx hb hts hwX2 hown hK.1 hP 2 rfl rfl 1 (by decide) l131 (fun _ h9 => h9) rfl dX11_fault_46 ?_
    have he := Option.some.inj hf
    rw [hQ]
    exact W.iret (v := v0_now_fault_place) hx hb hr (fun t ht hW => by rw [← he]; exact ⟨⟨v0_now_fault_place, (), rfl, rfl, by rw [ht]; exact hP, hD⟩, hS.F ht⟩) hS.2.2 dX11_fault_49
  replace hf := im c_2 hf
  refine lv_lookup (tgt := 50) hx hb dX11_fault_1 (by decide) (off := 49) (zlook2 c_1 c_2) (by decide) ?_
  refine lv_iconst (v := -1) hx hb dX11_fault_50 (by decide) ?_
  have he := Option.some.inj hf
  rw [hQ]
  exact W.iret (v := (-1 : Int32)) hx hb hr (fun t ht hW => by rw [← he]; exact ⟨⟨(-1 : Int32), (), rfl, rfl, by rw [ht]; exact hP, hD⟩, hS.F ht⟩) hS.2.2 dX11_fault_51
def fX11_edit_72 (N : Nat) (g0_now_tape_bytes : Nat → Int32) (p1 : Int32) (y0 : Int32) (v0_now_edits : Int32) (v0_now_tape_size : Int32) (v0_now_coming_size : Int32) (g0_now_coming_rows : Nat → Int64) : Option (Int32 × Int32 × Int32 × Int32 × (Nat → Int64)) :=
  if y0 = (0 : Int32) then
    some ((-1 : Int32), v0_now_edits, v0_now_tape_size, v0_now_coming_size, g0_now_coming_rows)
  else
    some ((v0_now_edits + (1 : Int32)), (v0_now_edits + (1 : Int32)), v0_now_tape_size, v0_now_coming_size, g0_now_coming_rows)
def fX11_edit (N : Nat) (v0_now_edits : Int32) (v0_now_tape_size : Int32) (g0_now_tape_bytes : Nat → Int32) (v0_now_coming_size : Int32) (g0_now_coming_rows : Nat → Int64) (p1 : Int32) : Option (Int32 × Int32 × Int32 × Int32 × (Nat → Int64)) :=
  Option.bind (fX6_onlyWord N v0_now_tape_size g0_now_tape_bytes) fun r1 =>
  Option.bind (fX10_shorten v0_now_tape_size (0 : Int32)) fun r2 =>
  if (lg_cmp r1 (0 : Int64)) = (0 : Int32) then
    some ((-1 : Int32), v0_now_edits, r2.2, v0_now_coming_size, g0_now_coming_rows)
  else
    if v0_now_edits < (12 : Int32) then
      if p1 = (0 : Int32) then
        Option.bind (fX7_add N 40 v0_now_coming_size g0_now_coming_rows r1) fun r7 =>
        fX11_edit_72 N g0_now_tape_bytes p1 r7.1 v0_now_edits r2.2 r7.2.1 r7.2.2
      else
        Option.bind (fX7_drop N 40 v0_now_coming_size g0_now_coming_rows r1) fun r9 =>
        fX11_edit_72 N g0_now_tape_bytes p1 r9.1 v0_now_edits r2.2 r9.2.1 r9.2.2
    else
      some ((-1 : Int32), v0_now_edits, r2.2, v0_now_coming_size, g0_now_coming_rows)
set_option maxHeartbeats 4000000 in
set_option maxRecDepth 100000 in
theorem mX11_edit (l : Launch) (D : zG) (a0 : Nat) (a0_now : Nat) (a0_images : Nat) (a0_merges : Nat) (a0_cut : Nat) (a0_index : Nat) (a0_otherIndex : Nat) (a0_readWords : Nat) (a0_triedPattern : Nat) (a0_alike : Nat) (a0_now_tape : Nat) (a0_now_dictionary : Nat) (a0_now_coming : Nat) (a0_now_pattern : Nat) (a0_now_fault : Nat) (a0_now_tape_bytes : Nat) (a0_now_coming_rows : Nat) (sz : Nat)  (v0_now_edits : Int32) (v0_now_tape_size : Int32) (g0_now_tape_bytes : Nat → Int32) (v0_now_coming_size : Int32) (g0_now_coming_rows : Nat → Int64) (p1 : Int32) (N : Nat) (res : Int32 × Int32 × Int32 × Int32 × (Nat → Int64)) (hf : fX11_edit N v0_now_edits v0_now_tape_size g0_now_tape_bytes v0_now_coming_size g0_now_coming_rows p1 = some res) : Met l yX11_edit wsX11_edit ({ frames := 4, cells := 0, slots := 0, locals := 90 } : Room) (va_Pc [.ref a0, .int p1] (zW D sz [(a0, .inr (8, [.ref a0_now, .ref a0_images, .ref a0_merges, .ref a0_cut, .ref a0_index, .ref a0_otherIndex, .ref a0_readWords, .ref a0_triedPattern, .ref a0_alike])), (a0_now, .inr (6, [.ref a0_now_tape, .ref a0_now_dictionary, .ref a0_now_coming, .ref a0_now_pattern, .ref a0_now_fault, .int v0_now_edits])), (a0_now_tape, .inr (7, [.ref a0_now_tape_bytes, .int v0_now_tape_size])), (a0_now_tape_bytes, .inl (D.2 0, 400, .inl g0_now_tape_bytes)), (a0_now_coming, .inr (5, [.ref a0_now_coming_rows, .int v0_now_coming_size])), (a0_now_coming_rows, .inl (D.2 2, 40, .inr (.inl g0_now_coming_rows)))])) (va_Qi (fun r (_ : Unit) => r = res.1) (fun _ => zB D (va_A [(a0, .inr (8, [.ref a0_now, .ref a0_images, .ref a0_merges, .ref a0_cut, .ref a0_index, .ref a0_otherIndex, .ref a0_readWords, .ref a0_triedPattern, .ref a0_alike])), (a0_now, .inr (6, [.ref a0_now_tape, .ref a0_now_dictionary, .ref a0_now_coming, .ref a0_now_pattern, .ref a0_now_fault, .int v0_now_edits])), (a0_now_tape, .inr (7, [.ref a0_now_tape_bytes, .int v0_now_tape_size])), (a0_now_tape_bytes, .inl (D.2 0, 400, .inl g0_now_tape_bytes)), (a0_now_coming, .inr (5, [.ref a0_now_coming_rows, .int v0_now_coming_size])), (a0_now_coming_rows, .inl (D.2 2, 40, .inr (.inl g0_now_coming_rows)))] sz) [(a0, .inr (8, [.ref a0_now, .ref a0_images, .ref a0_merges, .ref a0_cut, .ref a0_index, .ref a0_otherIndex, .ref a0_readWords, .ref a0_triedPattern, .ref a0_alike])), (a0_now, .inr (6, [.ref a0_now_tape, .ref a0_now_dictionary, .ref a0_now_coming, .ref a0_now_pattern, .ref a0_now_fault, .int res.2.1])), (a0_now_tape, .inr (7, [.ref a0_now_tape_bytes, .int res.2.2.1])), (a0_now_tape_bytes, .inl (D.2 0, 400, .inl g0_now_tape_bytes)), (a0_now_coming, .inr (5, [.ref a0_now_coming_rows, .int res.2.2.2.1])), (a0_now_coming_rows, .inl (D.2 2, 40, .inr (.inl res.2.2.2.2)))]) (va_A [(a0, .inr (8, [.ref a0_now, .ref a0_images, .ref a0_merges, .ref a0_cut, .ref a0_index, .ref a0_otherIndex, .ref a0_readWords, .ref a0_triedPattern, .ref a0_alike])), (a0_now, .inr (6, [.ref a0_now_tape, .ref a0_now_dictionary, .ref a0_now_coming, .ref a0_now_pattern, .ref a0_now_fault, .int v0_now_edits])), (a0_now_tape, .inr (7, [.ref a0_now_tape_bytes, .int v0_now_tape_size])), (a0_now_tape_bytes, .inl (D.2 0, 400, .inl g0_now_tape_bytes)), (a0_now_coming, .inr (5, [.ref a0_now_coming_rows, .int v0_now_coming_size])), (a0_now_coming_rows, .inl (D.2 2, 40, .inr (.inl g0_now_coming_rows)))] sz)) 0 0 (va_A [(a0, .inr (8, [.ref a0_now, .ref a0_images, .ref a0_merges, .ref a0_cut, .ref a0_index, .ref a0_otherIndex, .ref a0_readWords, .ref a0_triedPattern, .ref a0_alike])), (a0_now, .inr (6, [.ref a0_now_tape, .ref a0_now_dictionary, .ref a0_now_coming, .ref a0_now_pattern, .ref a0_now_fault, .int v0_now_edits])), (a0_now_tape, .inr (7, [.ref a0_now_tape_bytes, .int v0_now_tape_size])), (a0_now_tape_bytes, .inl (D.2 0, 400, .inl g0_now_tape_bytes)), (a0_now_coming, .inr (5, [.ref a0_now_coming_rows, .int v0_now_coming_size])), (a0_now_coming_rows, .inl (D.2 2, 40, .inr (.inl g0_now_coming_rows)))] sz) := by
  refine Met.ofW (cc := cX11_edit) (maxL := 5) (ret := (some .int)) (by decide) rfl ?_
  intro p e s m args below meth c s₁ B hml hv
  obtain ⟨rfl, hsz, hP, hK, hD0⟩ := hv
  have hx := B.exec
  have hb := B.bytes
  have hr := B.returns
  have hts := atoms_spec (ws := wsX11_edit) B.pre
  have hown : s.vm.findClass RX11 = some m.cls := findClass_of_methodNamed B.named
  have hlocks := B.notSynchronized
  subst hsz
  have hD := hD0.self (sz := s.heap.size)
  generalize hAe : va_A [(a0, .inr (8, [.ref a0_now, .ref a0_images, .ref a0_merges, .ref a0_cut, .ref a0_index, .ref a0_otherIndex, .ref a0_readWords, .ref a0_triedPattern, .ref a0_alike])), (a0_now, .inr (6, [.ref a0_now_tape, .ref a0_now_dictionary, .ref a0_now_coming, .ref a0_now_pattern, .ref a0_now_fault, .int v0_now_edits])), (a0_now_tape, .inr (7, [.ref a0_now_tape_bytes, .int v0_now_tape_size])), (a0_now_tape_bytes, .inl (D.2 0, 400, .inl g0_now_tape_bytes)), (a0_now_coming, .inr (5, [.ref a0_now_coming_rows, .int v0_now_coming_size])), (a0_now_coming_rows, .inl (D.2 2, 40, .inr (.inl g0_now_coming_rows)))] s.heap.size = A at hD ⊢
  have hA : ∀ q : Nat, s.heap.size ≤ q → A q := fun q h => by rw [← hAe]; exact Or.inr h
  have l12 := zat hts 1 (w := .fieldLink RX11 12 "TurnedWords" "now" "LTurnedWords$State;") rfl
  have l73 := zat hts 2 (w := .fieldLink RX11 73 "TurnedWords$State" "tape" "LTurnedWords$Tape;") rfl
  have l138 := zat hts 3 (w := .fieldLink RX11 138 "TurnedWords$State" "edits" "I") rfl
  have l141 := zat hts 4 (w := .fieldLink RX11 141 "TurnedWords$State" "coming" "LTurnedWords$Rising;") rfl
  have hwX11 : ∀ w ∈ u_ws RX11 TX11 9, w ∈ wsX11_edit := fun w h => List.mem_cons_of_mem _ (List.mem_append_left _ (List.mem_append_left _ (List.mem_append_left _ (List.mem_append_right _ h))))
  have hwX9 : ∀ w ∈ u_ws RX9 TX9 6, w ∈ wsX11_edit := fun w h => List.mem_cons_of_mem _ (List.mem_append_left _ (List.mem_append_left _ (List.mem_append_right _ h)))
  have hl := lv_entry ([.ref a0, .int p1]) (n := 5) (Nat.le_of_ble_eq_true rfl)
  rw [lg_entry_eq]
  generalize (lg_sl ([.ref a0, .int p1]) ++ List.replicate (5 - (lg_sl ([.ref a0, .int p1])).length) Slot.unset).toArray = ls at hl ⊢
  have hl : lv_has ls 5 [(0, .ref a0), (1, .int p1)] := hl
  refine zStart (A := A) hP (fun Q0 H locs hQ hP hS => ?_)
  have k72 : ∀ (y0 : Int32) (v0_now_edits : Int32) (v0_now_tape_size : Int32) (v0_now_coming_size : Int32) (g0_now_coming_rows : Nat → Int64) (H : Heap) (locs : List Loc) (ls : Array Slot), fX11_edit_72 N g0_now_tape_bytes p1 y0 v0_now_edits v0_now_tape_size v0_now_coming_size g0_now_coming_rows = some res → va_P D.1 vwCl [(a0, .inr (8, [.ref a0_now, .ref a0_images, .ref a0_merges, .ref a0_cut, .ref a0_index, .ref a0_otherIndex, .ref a0_readWords, .ref a0_triedPattern, .ref a0_alike])), (a0_now, .inr (6, [.ref a0_now_tape, .ref a0_now_dictionary, .ref a0_now_coming, .ref a0_now_pattern, .ref a0_now_fault, .int v0_now_edits])), (a0_now_tape, .inr (7, [.ref a0_now_tape_bytes, .int v0_now_tape_size])), (a0_now_tape_bytes, .inl (D.2 0, 400, .inl g0_now_tape_bytes)), (a0_now_coming, .inr (5, [.ref a0_now_coming_rows, .int v0_now_coming_size])), (a0_now_coming_rows, .inl (D.2 2, 40, .inr (.inl g0_now_coming_rows)))] H → va_D A [(a0, .inr (8, [.ref a0_now, .ref a0_images, .ref a0_merges, .ref a0_cut, .ref a0_index, .ref a0_otherIndex, .ref a0_readWords, .ref a0_triedPattern, .ref a0_alike])), (a0_now, .inr (6, [.ref a0_now_tape, .ref a0_now_dictionary, .ref a0_now_coming, .ref a0_now_pattern, .ref a0_now_fault, .int v0_now_edits])), (a0_now_tape, .inr (7, [.ref a0_now_tape_bytes, .int v0_now_tape_size])), (a0_now_tape_bytes, .inl (D.2 0, 400, .inl g0_now_tape_bytes)), (a0_now_coming, .inr (5, [.ref a0_now_coming_rows, .int v0_now_coming_size])), (a0_now_coming_rows, .inl (D.2 2, 40, .inr (.inl g0_now_coming_rows)))] → va_S A s.heap H locs → lv_has ls 5 [(0, .ref a0)] → W p l e (headSpec wsX11_edit ({ frames := 4, cells := 0, slots := 0, locals := 90 } : Room)).room s m ([.ref a0, .int p1] : List Value).toArray below meth c H locs 0 0 Q0 (F0 m 72 ls [.int y0]) := by
    intro y0 v0_now_edits v0_now_tape_size v0_now_coming_size g0_now_coming_rows H locs ls hf hP hD hS hl
    unfold fX11_edit_72 at hf
    refine lv_istore (lv' := [(4, .int y0), (0, .ref a0)]) hx hb dX11_edit_72 hl (by decide) rfl (fun ls hl => ?_)
    refine lv_iload hx hb dX11_edit_74 (lv_at hl 0 rfl) ?_
    refine lv_if_ne (tgt := 81) hx hb dX11_edit_76 (by decide) (fun c_11 => ?_) (fun c_11 => ?_)
    · replace hf := im c_11 hf
      refine lv_aload_n hx hb dX11_edit_81 rfl (lv_at hl 1 rfl) ?_
      refine va_get (D := D.1) (ci := 8) (v := .ref a0_now) (C := RX11) (T := TX11) (N := 9) hx hb hts hwX11 hown hK.1 hP 0 rfl rfl 0 (by decide) l12 (fun _ h9 => h9) rfl dX11_edit_82 ?_
      refine lv_dup hx hb dX11_edit_85 rfl ?_
      refine va_get (D := D.1) (ci := 6) (v := .int v0_now_edits) (C := RX9) (T := TX9) (N := 6) hx hb hts hwX9 hown hK.1 hP 1 rfl rfl 5 (by decide) l138 (fun _ h9 => h9) rfl dX11_edit_86 ?_
      refine lv_iconst (v := 1) hx hb dX11_edit_89 (by decide) ?_
      refine lv_iadd hx hb dX11_edit_90 ?_
      refine va_put (D := D.1) (ci := 6) (v := .int (v0_now_edits + (1 : Int32))) (ty := .int) (C := RX9) (T := TX9) (N := 6) hx hb hts hwX9 tyX9 tyX9_ok nmX9 hown hK.1 hP hD hS 1 rfl rfl 5 (by decide) l138 (fun _ h9 => h9) rfl (by decide +kernel) rfl rfl (Nat.le_of_ble_eq_true rfl) dX11_edit_91 (fun H locs hP hD hS => ?_)
      have hP : va_P D.1 vwCl [(a0, .inr (8, [.ref a0_now, .ref a0_images, .ref a0_merges, .ref a0_cut, .ref a0_index, .ref a0_otherIndex, .ref a0_readWords, .ref a0_triedPattern, .ref a0_alike])), (a0_now, .inr (6, [.ref a0_now_tape, .ref a0_now_dictionary, .ref a0_now_coming, .ref a0_now_pattern, .ref a0_now_fault, .int (v0_now_edits + (1 : Int32))])), (a0_now_tape, .inr (7, [.ref a0_now_tape_bytes, .int v0_now_tape_size])), (a0_now_tape_bytes, .inl (D.2 0, 400, .inl g0_now_tape_bytes)), (a0_now_coming, .inr (5, [.ref a0_now_coming_rows, .int v0_now_coming_size])), (a0_now_coming_rows, .inl (D.2 2, 40, .inr (.inl g0_now_coming_rows)))] H := hP
      have hD : va_D A [(a0, .inr (8, [.ref a0_now, .ref a0_images, .ref a0_merges, .ref a0_cut, .ref a0_index, .ref a0_otherIndex, .ref a0_readWords, .ref a0_triedPattern, .ref a0_alike])), (a0_now, .inr (6, [.ref a0_now_tape, .ref a0_now_dictionary, .ref a0_now_coming, .ref a0_now_pattern, .ref a0_now_fault, .int (v0_now_edits + (1 : Int32))])), (a0_now_tape, .inr (7, [.ref a0_now_tape_bytes, .int v0_now_tape_size])), (a0_now_tape_bytes, .inl (D.2 0, 400, .inl g0_now_tape_bytes)), (a0_now_coming, .inr (5, [.ref a0_now_coming_rows, .int v0_now_coming_size])), (a0_now_coming_rows, .inl (D.2 2, 40, .inr (.inl g0_now_coming_rows)))] := hD
      refine lv_aload_n hx hb dX11_edit_94 rfl (lv_at hl 1 rfl) ?_
      refine va_get (D := D.1) (ci := 8) (v := .ref a0_now) (C := RX11) (T := TX11) (N := 9) hx hb hts hwX11 hown hK.1 hP 0 rfl rfl 0 (by decide) l12 (fun _ h9 => h9) rfl dX11_edit_95 ?_
      refine va_get (D := D.1) (ci := 6) (v := .int (v0_now_edits + (1 : Int32))) (C := RX9) (T := TX9) (N := 6) hx hb hts hwX9 hown hK.1 hP 1 rfl rfl 5 (by decide) l138 (fun _ h9 => h9) rfl dX11_edit_98 ?_
      have he := Option.some.inj hf
      rw [hQ]
      exact W.iret (v := (v0_now_edits + (1 : Int32))) hx hb hr (fun t ht hW => by rw [← he]; exact ⟨⟨(v0_now_edits + (1 : Int32)), (), rfl, rfl, by rw [ht]; exact hP, hD⟩, hS.F ht⟩) hS.2.2 dX11_edit_101
    · replace hf := ip c_11 hf
      refine lv_iconst (v := -1) hx hb dX11_edit_79 (by decide) ?_
      have he := Option.some.inj hf
      rw [hQ]
      exact W.iret (v := (-1 : Int32)) hx hb hr (fun t ht hW => by rw [← he]; exact ⟨⟨(-1 : Int32), (), rfl, rfl, by rw [ht]; exact hP, hD⟩, hS.F ht⟩) hS.2.2 dX11_edit_80
  unfold fX11_edit at hf
  refine lv_aload_n hx hb dX11_edit_0 rfl (lv_at hl 0 rfl) ?_
  refine va_get (D := D.1) (ci := 8) (v := .ref a0_now) (C := RX11) (T := TX11) (N := 9) hx hb hts hwX11 hown hK.1 hP 0 rfl rfl 0 (by decide) l12 (fun _ h9 => h9) rfl dX11_edit_1 ?_
  refine va_get (D := D.1) (ci := 6) (v := .ref a0_now_tape) (C := RX9) (T := TX9) (N := 6) hx hb hts hwX9 hown hK.1 hP 1 rfl rfl 0 (by decide) l73 (fun _ h9 => h9) rfl dX11_edit_4 ?_
  obtain ⟨r1, hr1, hf⟩ := bd hf
  refine zSl (As := [.ref a0_now_tape]) (rest := []) (wn := [(a0, .inr (8, [.ref a0_now, .ref a0_images, .ref a0_merges, .ref a0_cut, .ref a0_index, .ref a0_otherIndex, .ref a0_readWords, .ref a0_triedPattern, .ref a0_alike])), (a0_now, .inr (6, [.ref a0_now_tape, .ref a0_now_dictionary, .ref a0_now_coming, .ref a0_now_pattern, .ref a0_now_fault, .int v0_now_edits])), (a0_now_tape, .inr (7, [.ref a0_now_tape_bytes, .int v0_now_tape_size])), (a0_now_tape_bytes, .inl (D.2 0, 400, .inl g0_now_tape_bytes)), (a0_now_coming, .inr (5, [.ref a0_now_coming_rows, .int v0_now_coming_size])), (a0_now_coming_rows, .inl (D.2 2, 40, .inr (.inl g0_now_coming_rows)))]) ⟨hx, hb, hml, hown, hts⟩ (mX6_onlyWord l D a0_now_tape a0_now_tape_bytes H.size v0_now_tape_size g0_now_tape_bytes N r1 hr1) (va_cwS 1 hts gX11_edit_X6_onlyWord rfl rfl rfl (by decide +kernel) ⟨Nat.le_of_ble_eq_true rfl, Nat.le_of_ble_eq_true rfl⟩) hK hP hD hS hA [2, 3] [0, 1, 4, 5] [0, 1, 4, 5, 2, 3] rfl (by decide) rfl (by decide) (by decide) rfl (by decide) rfl hl.1 rfl (Nat.le_of_ble_eq_true rfl) dX11_edit_7 ⟨Nat.zero_le _, Nat.zero_le _⟩ (fun H locs hP hD hS => ?_)
  refine lv_lstore_n (lv' := [(2, .long r1), (0, .ref a0), (1, .int p1)]) hx hb dX11_edit_10 rfl hl (by decide) rfl (fun ls hl => ?_)
  refine lv_aload_n hx hb dX11_edit_11 rfl (lv_at hl 1 rfl) ?_
  refine va_get (D := D.1) (ci := 8) (v := .ref a0_now) (C := RX11) (T := TX11) (N := 9) hx hb hts hwX11 hown hK.1 hP 0 rfl rfl 0 (by decide) l12 (fun _ h9 => h9) rfl dX11_edit_12 ?_
  refine va_get (D := D.1) (ci := 6) (v := .ref a0_now_tape) (C := RX9) (T := TX9) (N := 6) hx hb hts hwX9 hown hK.1 hP 1 rfl rfl 0 (by decide) l73 (fun _ h9 => h9) rfl dX11_edit_15 ?_
  refine lv_iconst (v := 0) hx hb dX11_edit_18 (by decide) ?_
  obtain ⟨r2, hr2, hf⟩ := bd hf
  refine zVz (As := [.int (0 : Int32)]) (rest := []) (ci := 7) (q0 := 0) (wn := [(a0, .inr (8, [.ref a0_now, .ref a0_images, .ref a0_merges, .ref a0_cut, .ref a0_index, .ref a0_otherIndex, .ref a0_readWords, .ref a0_triedPattern, .ref a0_alike])), (a0_now, .inr (6, [.ref a0_now_tape, .ref a0_now_dictionary, .ref a0_now_coming, .ref a0_now_pattern, .ref a0_now_fault, .int v0_now_edits])), (a0_now_tape, .inr (7, [.ref a0_now_tape_bytes, .int r2.2])), (a0_now_tape_bytes, .inl (D.2 0, 400, .inl g0_now_tape_bytes)), (a0_now_coming, .inr (5, [.ref a0_now_coming_rows, .int v0_now_coming_size])), (a0_now_coming_rows, .inl (D.2 2, 40, .inr (.inl g0_now_coming_rows)))]) ⟨hx, hb, hml, hown, hts⟩ (mX10_shorten l D a0_now_tape a0_now_tape_bytes H.size v0_now_tape_size (0 : Int32) r2 hr2) (cwV 1 hts gX11_edit_X10_shorten rfl rfl rfl (by decide +kernel) ⟨Nat.le_of_ble_eq_true rfl, Nat.le_of_ble_eq_true rfl⟩) hK hP hD hS hA [2] [0, 1, 3, 4, 5] [0, 1, 5, 2, 3, 4] rfl (by decide) rfl (by decide) (by decide) rfl (by decide) rfl rfl rfl hl.1 rfl (Nat.le_of_ble_eq_true rfl) dX11_edit_19 ⟨Nat.zero_le _, Nat.zero_le _⟩ (fun H locs hb_3 hP hD hS => ?_)
  refine lv_pop hx hb dX11_edit_22 rfl ?_
  refine lv_lload_n hx hb dX11_edit_23 rfl (lv_at hl 0 rfl) ?_
  refine lv_lconst (v := 0) hx hb dX11_edit_24 (by decide) ?_
  refine W.lcmp hx hb dX11_edit_25 ?_
  refine lv_if_eq (tgt := 41) hx hb dX11_edit_26 (by decide) (fun c_4 => ?_) (fun c_4 => ?_)
  · replace hf := ip c_4 hf
    refine lv_iconst (v := -1) hx hb dX11_edit_41 (by decide) ?_
    have he := Option.some.inj hf
    rw [hQ]
    exact W.iret (v := (-1 : Int32)) hx hb hr (fun t ht hW => by rw [← he]; exact ⟨⟨(-1 : Int32), (), rfl, rfl, by rw [ht]; exact hP, hD⟩, hS.F ht⟩) hS.2.2 dX11_edit_42
  · replace hf := im c_4 hf
    refine lv_aload_n hx hb dX11_edit_29 rfl (lv_at hl 1 rfl) ?_
    refine va_get (D := D.1) (ci := 8) (v := .ref a0_now) (C := RX11) (T := TX11) (N := 9) hx hb hts hwX11 hown hK.1 hP 0 rfl rfl 0 (by decide) l12 (fun _ h9 => h9) rfl dX11_edit_30 ?_
    refine va_get (D := D.1) (ci := 6) (v := .int v0_now_edits) (C := RX9) (T := TX9) (N := 6) hx hb hts hwX9 hown hK.1 hP 1 rfl rfl 5 (by decide) l138 (fun _ h9 => h9) rfl dX11_edit_33 ?_
    refine lv_bipush (v := 12) hx hb dX11_edit_36 (by decide) ?_
    refine lv_icmp_lt (tgt := 43) hx hb dX11_edit_38 (by decide) (fun c_5 => ?_) (fun c_5 => ?_)
    · replace hf := ip c_5 hf
      refine lv_iload_n hx hb dX11_edit_43 rfl (lv_at hl 2 rfl) ?_
      refine lv_if_eq (tgt := 61) hx hb dX11_edit_44 (by decide) (fun c_6 => ?_) (fun c_6 => ?_)
      · replace hf := ip c_6 hf
        refine lv_aload_n hx hb dX11_edit_61 rfl (lv_at hl 1 rfl) ?_
        refine va_get (D := D.1) (ci := 8) (v := .ref a0_now) (C := RX11) (T := TX11) (N := 9) hx hb hts hwX11 hown hK.1 hP 0 rfl rfl 0 (by decide) l12 (fun _ h9 => h9) rfl dX11_edit_62 ?_
        refine va_get (D := D.1) (ci := 6) (v := .ref a0_now_coming) (C := RX9) (T := TX9) (N := 6) hx hb hts hwX9 hown hK.1 hP 1 rfl rfl 2 (by decide) l141 (fun _ h9 => h9) rfl dX11_edit_65 ?_
        refine lv_lload_n hx hb dX11_edit_68 rfl (lv_at hl 0 rfl) ?_
        obtain ⟨r7, hr7, hf⟩ := bd hf
        refine zVz (As := [.long r1]) (rest := []) (ci := 5) (q0 := 0) (wn := [(a0, .inr (8, [.ref a0_now, .ref a0_images, .ref a0_merges, .ref a0_cut, .ref a0_index, .ref a0_otherIndex, .ref a0_readWords, .ref a0_triedPattern, .ref a0_alike])), (a0_now, .inr (6, [.ref a0_now_tape, .ref a0_now_dictionary, .ref a0_now_coming, .ref a0_now_pattern, .ref a0_now_fault, .int v0_now_edits])), (a0_now_tape, .inr (7, [.ref a0_now_tape_bytes, .int r2.2])), (a0_now_tape_bytes, .inl (D.2 0, 400, .inl g0_now_tape_bytes)), (a0_now_coming, .inr (5, [.ref a0_now_coming_rows, .int r7.2.1])), (a0_now_coming_rows, .inl (D.2 2, 40, .inr (.inl r7.2.2)))]) ⟨hx, hb, hml, hown, hts⟩ (mX7_add l D a0_now_coming a0_now_coming_rows H.size 40 v0_now_coming_size g0_now_coming_rows r1 N r7 hr7) (cwV 1 hts gX11_edit_X7_add rfl rfl rfl (by decide +kernel) ⟨Nat.le_of_ble_eq_true rfl, Nat.le_of_ble_eq_true rfl⟩) hK hP hD hS hA [4, 5] [0, 1, 2, 3] [0, 1, 2, 3, 4, 5] rfl (by decide) rfl (by decide) (by decide) rfl (by decide) rfl rfl rfl hl.1 rfl (Nat.le_of_ble_eq_true rfl) dX11_edit_69 ⟨Nat.zero_le _, Nat.zero_le _⟩ (fun H locs hb_8 hP hD hS => ?_)
        exact k72 r7.1 v0_now_edits r2.2 r7.2.1 r7.2.2 H locs ls hf hP hD hS (lv_sub hl [1] rfl)
      · replace hf := im c_6 hf
        refine lv_aload_n hx hb dX11_edit_47 rfl (lv_at hl 1 rfl) ?_
        refine va_get (D := D.1) (ci := 8) (v := .ref a0_now) (C := RX11) (T := TX11) (N := 9) hx hb hts hwX11 hown hK.1 hP 0 rfl rfl 0 (by decide) l12 (fun _ h9 => h9) rfl dX11_edit_48 ?_
        refine va_get (D := D.1) (ci := 6) (v := .ref a0_now_coming) (C := RX9) (T := TX9) (N := 6) hx hb hts hwX9 hown hK.1 hP 1 rfl rfl 2 (by decide) l141 (fun _ h9 => h9) rfl dX11_edit_51 ?_
        refine lv_lload_n hx hb dX11_edit_54 rfl (lv_at hl 0 rfl) ?_
        obtain ⟨r9, hr9, hf⟩ := bd hf
        refine zVz (As := [.long r1]) (rest := []) (ci := 5) (q0 := 0) (wn := [(a0, .inr (8, [.ref a0_now, .ref a0_images, .ref a0_merges, .ref a0_cut, .ref a0_index, .ref a0_otherIndex, .ref a0_readWords, .ref a0_triedPattern, .ref a0_alike])), (a0_now, .inr (6, [.ref a0_now_tape, .ref a0_now_dictionary, .ref a0_now_coming, .ref a0_now_pattern, .ref a0_now_fault, .int v0_now_edits])), (a0_now_tape, .inr (7, [.ref a0_now_tape_bytes, .int r2.2])), (a0_now_tape_bytes, .inl (D.2 0, 400, .inl g0_now_tape_bytes)), (a0_now_coming, .inr (5, [.ref a0_now_coming_rows, .int r9.2.1])), (a0_now_coming_rows, .inl (D.2 2, 40, .inr (.inl r9.2.2)))]) ⟨hx, hb, hml, hown, hts⟩ (mX7_drop l D a0_now_coming a0_now_coming_rows H.size 40 v0_now_coming_size g0_now_coming_rows r1 N r9 hr9) (cwV 1 hts gX11_edit_X7_drop rfl rfl rfl (by decide +kernel) ⟨Nat.le_of_ble_eq_true rfl, Nat.le_of_ble_eq_true rfl⟩) hK hP hD hS hA [4, 5] [0, 1, 2, 3] [0, 1, 2, 3, 4, 5] rfl (by decide) rfl (by decide) (by decide) rfl (by decide) rfl rfl rfl hl.1 rfl (Nat.le_of_ble_eq_true rfl) dX11_edit_55 ⟨Nat.zero_le _, Nat.zero_le _⟩ (fun H locs hb_10 hP hD hS => ?_)
        refine lv_goto (tgt := 72) hx hb dX11_edit_58 (by decide) ?_
        exact k72 r9.1 v0_now_edits r2.2 r9.2.1 r9.2.2 H locs ls hf hP hD hS (lv_sub hl [1] rfl)
    · replace hf := im c_5 hf
      refine lv_iconst (v := -1) hx hb dX11_edit_41 (by decide) ?_
      have he := Option.some.inj hf
      rw [hQ]
      exact W.iret (v := (-1 : Int32)) hx hb hr (fun t ht hW => by rw [← he]; exact ⟨⟨(-1 : Int32), (), rfl, rfl, by rw [ht]; exact hP, hD⟩, hS.F ht⟩) hS.2.2 dX11_edit_42
def fX11_cancel (v0_now_edits : Int32) (v0_now_dictionary_size : Int32) (g0_now_dictionary_rows : Nat → Int64) (v0_now_coming_size : Int32) (g0_now_coming_rows : Nat → Int64) : Option (Int32 × Int32 × Int32 × (Nat → Int64)) :=
  Option.bind (fX9_emptyBatch v0_now_edits v0_now_dictionary_size g0_now_dictionary_rows v0_now_coming_size g0_now_coming_rows) fun r1 =>
  some (v0_now_edits, r1.1, r1.2.1, r1.2.2)
set_option maxHeartbeats 4000000 in
set_option maxRecDepth 100000 in
theorem mX11_cancel (l : Launch) (D : zG) (a0 : Nat) (a0_now : Nat) (a0_images : Nat) (a0_merges : Nat) (a0_cut : Nat) (a0_index : Nat) (a0_otherIndex : Nat) (a0_readWords : Nat) (a0_triedPattern : Nat) (a0_alike : Nat) (a0_now_tape : Nat) (a0_now_dictionary : Nat) (a0_now_coming : Nat) (a0_now_pattern : Nat) (a0_now_fault : Nat) (a0_now_dictionary_rows : Nat) (a0_now_coming_rows : Nat) (sz : Nat)  (v0_now_edits : Int32) (v0_now_dictionary_size : Int32) (g0_now_dictionary_rows : Nat → Int64) (v0_now_coming_size : Int32) (g0_now_coming_rows : Nat → Int64)  (res : Int32 × Int32 × Int32 × (Nat → Int64)) (hf : fX11_cancel v0_now_edits v0_now_dictionary_size g0_now_dictionary_rows v0_now_coming_size g0_now_coming_rows = some res) : Met l yX11_cancel wsX11_cancel ({ frames := 3, cells := 0, slots := 0, locals := 81 } : Room) (va_Pc [.ref a0] (zW D sz [(a0, .inr (8, [.ref a0_now, .ref a0_images, .ref a0_merges, .ref a0_cut, .ref a0_index, .ref a0_otherIndex, .ref a0_readWords, .ref a0_triedPattern, .ref a0_alike])), (a0_now, .inr (6, [.ref a0_now_tape, .ref a0_now_dictionary, .ref a0_now_coming, .ref a0_now_pattern, .ref a0_now_fault, .int v0_now_edits])), (a0_now_dictionary, .inr (5, [.ref a0_now_dictionary_rows, .int v0_now_dictionary_size])), (a0_now_dictionary_rows, .inl (D.2 2, 40, .inr (.inl g0_now_dictionary_rows))), (a0_now_coming, .inr (5, [.ref a0_now_coming_rows, .int v0_now_coming_size])), (a0_now_coming_rows, .inl (D.2 2, 40, .inr (.inl g0_now_coming_rows)))])) (va_Qi (fun r (_ : Unit) => r = res.1) (fun _ => zB D (va_A [(a0, .inr (8, [.ref a0_now, .ref a0_images, .ref a0_merges, .ref a0_cut, .ref a0_index, .ref a0_otherIndex, .ref a0_readWords, .ref a0_triedPattern, .ref a0_alike])), (a0_now, .inr (6, [.ref a0_now_tape, .ref a0_now_dictionary, .ref a0_now_coming, .ref a0_now_pattern, .ref a0_now_fault, .int v0_now_edits])), (a0_now_dictionary, .inr (5, [.ref a0_now_dictionary_rows, .int v0_now_dictionary_size])), (a0_now_dictionary_rows, .inl (D.2 2, 40, .inr (.inl g0_now_dictionary_rows))), (a0_now_coming, .inr (5, [.ref a0_now_coming_rows, .int v0_now_coming_size])), (a0_now_coming_rows, .inl (D.2 2, 40, .inr (.inl g0_now_coming_rows)))] sz) [(a0, .inr (8, [.ref a0_now, .ref a0_images, .ref a0_merges, .ref a0_cut, .ref a0_index, .ref a0_otherIndex, .ref a0_readWords, .ref a0_triedPattern, .ref a0_alike])), (a0_now, .inr (6, [.ref a0_now_tape, .ref a0_now_dictionary, .ref a0_now_coming, .ref a0_now_pattern, .ref a0_now_fault, .int res.2.1])), (a0_now_dictionary, .inr (5, [.ref a0_now_dictionary_rows, .int v0_now_dictionary_size])), (a0_now_dictionary_rows, .inl (D.2 2, 40, .inr (.inl g0_now_dictionary_rows))), (a0_now_coming, .inr (5, [.ref a0_now_coming_rows, .int res.2.2.1])), (a0_now_coming_rows, .inl (D.2 2, 40, .inr (.inl res.2.2.2)))]) (va_A [(a0, .inr (8, [.ref a0_now, .ref a0_images, .ref a0_merges, .ref a0_cut, .ref a0_index, .ref a0_otherIndex, .ref a0_readWords, .ref a0_triedPattern, .ref a0_alike])), (a0_now, .inr (6, [.ref a0_now_tape, .ref a0_now_dictionary, .ref a0_now_coming, .ref a0_now_pattern, .ref a0_now_fault, .int v0_now_edits])), (a0_now_dictionary, .inr (5, [.ref a0_now_dictionary_rows, .int v0_now_dictionary_size])), (a0_now_dictionary_rows, .inl (D.2 2, 40, .inr (.inl g0_now_dictionary_rows))), (a0_now_coming, .inr (5, [.ref a0_now_coming_rows, .int v0_now_coming_size])), (a0_now_coming_rows, .inl (D.2 2, 40, .inr (.inl g0_now_coming_rows)))] sz)) 0 0 (va_A [(a0, .inr (8, [.ref a0_now, .ref a0_images, .ref a0_merges, .ref a0_cut, .ref a0_index, .ref a0_otherIndex, .ref a0_readWords, .ref a0_triedPattern, .ref a0_alike])), (a0_now, .inr (6, [.ref a0_now_tape, .ref a0_now_dictionary, .ref a0_now_coming, .ref a0_now_pattern, .ref a0_now_fault, .int v0_now_edits])), (a0_now_dictionary, .inr (5, [.ref a0_now_dictionary_rows, .int v0_now_dictionary_size])), (a0_now_dictionary_rows, .inl (D.2 2, 40, .inr (.inl g0_now_dictionary_rows))), (a0_now_coming, .inr (5, [.ref a0_now_coming_rows, .int v0_now_coming_size])), (a0_now_coming_rows, .inl (D.2 2, 40, .inr (.inl g0_now_coming_rows)))] sz) := by
  refine Met.ofW (cc := cX11_cancel) (maxL := 2) (ret := (some .int)) (by decide) rfl ?_
  intro p e s m args below meth c s₁ B hml hv
  obtain ⟨rfl, hsz, hP, hK, hD0⟩ := hv
  have hx := B.exec
  have hb := B.bytes
  have hr := B.returns
  have hts := atoms_spec (ws := wsX11_cancel) B.pre
  have hown : s.vm.findClass RX11 = some m.cls := findClass_of_methodNamed B.named
  have hlocks := B.notSynchronized
  subst hsz
  have hD := hD0.self (sz := s.heap.size)
  generalize hAe : va_A [(a0, .inr (8, [.ref a0_now, .ref a0_images, .ref a0_merges, .ref a0_cut, .ref a0_index, .ref a0_otherIndex, .ref a0_readWords, .ref a0_triedPattern, .ref a0_alike])), (a0_now, .inr (6, [.ref a0_now_tape, .ref a0_now_dictionary, .ref a0_now_coming, .ref a0_now_pattern, .ref a0_now_fault, .int v0_now_edits])), (a0_now_dictionary, .inr (5, [.ref a0_now_dictionary_rows, .int v0_now_dictionary_size])), (a0_now_dictionary_rows, .inl (D.2 2, 40, .inr (.inl g0_now_dictionary_rows))), (a0_now_coming, .inr (5, [.ref a0_now_coming_rows, .int v0_now_coming_size])), (a0_now_coming_rows, .inl (D.2 2, 40, .inr (.inl g0_now_coming_rows)))] s.heap.size = A at hD ⊢
  have hA : ∀ q : Nat, s.heap.size ≤ q → A q := fun q h => by rw [← hAe]; exact Or.inr h
  have l12 := zat hts 1 (w := .fieldLink RX11 12 "TurnedWords" "now" "LTurnedWords$State;") rfl
  have l138 := zat hts 2 (w := .fieldLink RX11 138 "TurnedWords$State" "edits" "I") rfl
  have hwX11 : ∀ w ∈ u_ws RX11 TX11 9, w ∈ wsX11_cancel := fun w h => List.mem_cons_of_mem _ (List.mem_append_left _ (List.mem_append_left _ (List.mem_append_right _ h)))
  have hwX9 : ∀ w ∈ u_ws RX9 TX9 6, w ∈ wsX11_cancel := fun w h => List.mem_cons_of_mem _ (List.mem_append_left _ (List.mem_append_right _ h))
  have hl := lv_entry ([.ref a0]) (n := 2) (Nat.le_of_ble_eq_true rfl)
  rw [lg_entry_eq]
  generalize (lg_sl ([.ref a0]) ++ List.replicate (2 - (lg_sl ([.ref a0])).length) Slot.unset).toArray = ls at hl ⊢
  have hl : lv_has ls 2 [(0, .ref a0)] := hl
  refine zStart (A := A) hP (fun Q0 H locs hQ hP hS => ?_)
  unfold fX11_cancel at hf
  refine lv_aload_n hx hb dX11_cancel_0 rfl (lv_at hl 0 rfl) ?_
  refine va_get (D := D.1) (ci := 8) (v := .ref a0_now) (C := RX11) (T := TX11) (N := 9) hx hb hts hwX11 hown hK.1 hP 0 rfl rfl 0 (by decide) l12 (fun _ h9 => h9) rfl dX11_cancel_1 ?_
  refine va_get (D := D.1) (ci := 6) (v := .int v0_now_edits) (C := RX9) (T := TX9) (N := 6) hx hb hts hwX9 hown hK.1 hP 1 rfl rfl 5 (by decide) l138 (fun _ h9 => h9) rfl dX11_cancel_4 ?_
  refine lv_istore_n (lv' := [(1, .int v0_now_edits), (0, .ref a0)]) hx hb dX11_cancel_7 rfl hl (by decide) rfl (fun ls hl => ?_)
  refine lv_aload_n hx hb dX11_cancel_8 rfl (lv_at hl 1 rfl) ?_
  refine va_get (D := D.1) (ci := 8) (v := .ref a0_now) (C := RX11) (T := TX11) (N := 9) hx hb hts hwX11 hown hK.1 hP 0 rfl rfl 0 (by decide) l12 (fun _ h9 => h9) rfl dX11_cancel_9 ?_
  obtain ⟨r1, hr1, hf⟩ := bd hf
  refine zVv (As := []) (rest := []) (ci := 6) (q0 := 0) (wn := [(a0, .inr (8, [.ref a0_now, .ref a0_images, .ref a0_merges, .ref a0_cut, .ref a0_index, .ref a0_otherIndex, .ref a0_readWords, .ref a0_triedPattern, .ref a0_alike])), (a0_now, .inr (6, [.ref a0_now_tape, .ref a0_now_dictionary, .ref a0_now_coming, .ref a0_now_pattern, .ref a0_now_fault, .int r1.1])), (a0_now_dictionary, .inr (5, [.ref a0_now_dictionary_rows, .int v0_now_dictionary_size])), (a0_now_dictionary_rows, .inl (D.2 2, 40, .inr (.inl g0_now_dictionary_rows))), (a0_now_coming, .inr (5, [.ref a0_now_coming_rows, .int r1.2.1])), (a0_now_coming_rows, .inl (D.2 2, 40, .inr (.inl r1.2.2)))]) ⟨hx, hb, hml, hown, hts⟩ (mX9_emptyBatch l D a0_now a0_now_tape a0_now_dictionary a0_now_coming a0_now_pattern a0_now_fault a0_now_dictionary_rows a0_now_coming_rows H.size v0_now_edits v0_now_dictionary_size g0_now_dictionary_rows v0_now_coming_size g0_now_coming_rows r1 hr1) (cwV 0 hts gX11_cancel_X9_emptyBatch rfl rfl rfl (by decide +kernel) ⟨Nat.le_of_ble_eq_true rfl, Nat.le_of_ble_eq_true rfl⟩) hK hP hD hS hA [1, 2, 3, 4, 5] [0] [0, 1, 2, 3, 4, 5] rfl (by decide) rfl (by decide) (by decide) rfl (by decide) rfl rfl rfl hl.1 rfl (Nat.le_of_ble_eq_true rfl) dX11_cancel_12 ⟨Nat.zero_le _, Nat.zero_le _⟩ (fun H locs hP hD hS => ?_)
  refine lv_iload_n hx hb dX11_cancel_15 rfl (lv_at hl 0 rfl) ?_
  have he := Option.some.inj hf
  rw [hQ]
  exact W.iret (v := v0_now_edits) hx hb hr (fun t ht hW => by rw [← he]; exact ⟨⟨v0_now_edits, (), rfl, rfl, by rw [ht]; exact hP, hD⟩, hS.F ht⟩) hS.2.2 dX11_cancel_16
def fX11_answersOf_5 (N : Nat) (n0_rows : Nat) (v0_size : Int32) (g0_rows : Nat → Int64) (v1_size : Int32) (g1_signs : Nat → Int32) : Nat → Int64 → Int32 → Option (Int64)
  | 0, _, _ => none
  | K + 1, x2, x4 =>
    Option.bind (fX7_size v0_size) fun r1 =>
    if r1 ≤ x4 then
      some (x2)
    else
      Option.bind (fX7_at n0_rows v0_size g0_rows x4) fun r3 =>
      Option.bind (fX5_isMetBy N v1_size g1_signs r3) fun r4 =>
      if r4 = (0 : Int32) then
        (fX11_answersOf_5 N n0_rows v0_size g0_rows v1_size g1_signs K) x2 (x4 + (1 : Int32))
      else
        Option.bind (fX0_bit x4) fun r7 =>
        (fX11_answersOf_5 N n0_rows v0_size g0_rows v1_size g1_signs K) (x2 ||| r7) (x4 + (1 : Int32))
def fX11_answersOf (N : Nat) (n0_rows : Nat) (v0_size : Int32) (g0_rows : Nat → Int64) (v1_size : Int32) (g1_signs : Nat → Int32) : Option (Int64) :=
  fX11_answersOf_5 N n0_rows v0_size g0_rows v1_size g1_signs N (0 : Int64) (0 : Int32)
set_option maxHeartbeats 4000000 in
set_option maxRecDepth 100000 in
theorem mX11_answersOf (l : Launch) (D : zG) (a0 : Nat) (a0_rows : Nat) (a1 : Nat) (a1_signs : Nat) (sz : Nat) (n0_rows : Nat) (v0_size : Int32) (g0_rows : Nat → Int64) (v1_size : Int32) (g1_signs : Nat → Int32)  (N : Nat) (res : Int64) (hf : fX11_answersOf N n0_rows v0_size g0_rows v1_size g1_signs = some res) : Met l yX11_answersOf wsX11_answersOf ({ frames := 4, cells := 0, slots := 0, locals := 95 } : Room) (va_Pc [.ref a0, .ref a1] (zW D sz [(a0, .inr (5, [.ref a0_rows, .int v0_size])), (a0_rows, .inl (D.2 2, n0_rows, .inr (.inl g0_rows))), (a1, .inr (4, [.ref a1_signs, .int v1_size])), (a1_signs, .inl (D.2 1, 12, .inl g1_signs))])) (va_Ql (fun r (_ : Unit) => r = res) (fun _ => zB D (va_A [(a0, .inr (5, [.ref a0_rows, .int v0_size])), (a0_rows, .inl (D.2 2, n0_rows, .inr (.inl g0_rows))), (a1, .inr (4, [.ref a1_signs, .int v1_size])), (a1_signs, .inl (D.2 1, 12, .inl g1_signs))] sz) [(a0, .inr (5, [.ref a0_rows, .int v0_size])), (a0_rows, .inl (D.2 2, n0_rows, .inr (.inl g0_rows))), (a1, .inr (4, [.ref a1_signs, .int v1_size])), (a1_signs, .inl (D.2 1, 12, .inl g1_signs))]) (va_A [(a0, .inr (5, [.ref a0_rows, .int v0_size])), (a0_rows, .inl (D.2 2, n0_rows, .inr (.inl g0_rows))), (a1, .inr (4, [.ref a1_signs, .int v1_size])), (a1_signs, .inl (D.2 1, 12, .inl g1_signs))] sz)) 0 0 (va_A [(a0, .inr (5, [.ref a0_rows, .int v0_size])), (a0_rows, .inl (D.2 2, n0_rows, .inr (.inl g0_rows))), (a1, .inr (4, [.ref a1_signs, .int v1_size])), (a1_signs, .inl (D.2 1, 12, .inl g1_signs))] sz) := by
  refine Met.ofW (cc := cX11_answersOf) (maxL := 5) (ret := (some .long)) (by decide) rfl ?_
  intro p e s m args below meth c s₁ B hml hv
  obtain ⟨rfl, hsz, hP, hK, hD0⟩ := hv
  have hx := B.exec
  have hb := B.bytes
  have hr := B.returns
  have hts := atoms_spec (ws := wsX11_answersOf) B.pre
  have hown : s.vm.findClass RX11 = some m.cls := findClass_of_methodNamed B.named
  have hlocks := B.notSynchronized
  subst hsz
  have hD := hD0.self (sz := s.heap.size)
  generalize hAe : va_A [(a0, .inr (5, [.ref a0_rows, .int v0_size])), (a0_rows, .inl (D.2 2, n0_rows, .inr (.inl g0_rows))), (a1, .inr (4, [.ref a1_signs, .int v1_size])), (a1_signs, .inl (D.2 1, 12, .inl g1_signs))] s.heap.size = A at hD ⊢
  have hA : ∀ q : Nat, s.heap.size ≤ q → A q := fun q h => by rw [← hAe]; exact Or.inr h
  have hl := lv_entry ([.ref a0, .ref a1]) (n := 5) (Nat.le_of_ble_eq_true rfl)
  rw [lg_entry_eq]
  generalize (lg_sl ([.ref a0, .ref a1]) ++ List.replicate (5 - (lg_sl ([.ref a0, .ref a1])).length) Slot.unset).toArray = ls at hl ⊢
  have hl : lv_has ls 5 [(0, .ref a0), (1, .ref a1)] := hl
  refine zStart (A := A) hP (fun Q0 H locs hQ hP hS => ?_)
  have k5 : ∀ K : Nat, ∀ (x2 : Int64) (x4 : Int32) (H : Heap) (locs : List Loc) (ls : Array Slot), fX11_answersOf_5 N n0_rows v0_size g0_rows v1_size g1_signs K x2 x4 = some res → va_P D.1 vwCl [(a0, .inr (5, [.ref a0_rows, .int v0_size])), (a0_rows, .inl (D.2 2, n0_rows, .inr (.inl g0_rows))), (a1, .inr (4, [.ref a1_signs, .int v1_size])), (a1_signs, .inl (D.2 1, 12, .inl g1_signs))] H → va_D A [(a0, .inr (5, [.ref a0_rows, .int v0_size])), (a0_rows, .inl (D.2 2, n0_rows, .inr (.inl g0_rows))), (a1, .inr (4, [.ref a1_signs, .int v1_size])), (a1_signs, .inl (D.2 1, 12, .inl g1_signs))] → va_S A s.heap H locs → lv_has ls 5 [(0, .ref a0), (1, .ref a1), (2, .long x2), (4, .int x4)] → W p l e (headSpec wsX11_answersOf ({ frames := 4, cells := 0, slots := 0, locals := 95 } : Room)).room s m ([.ref a0, .ref a1] : List Value).toArray below meth c H locs 0 0 Q0 (F0 m 5 ls []) := by
    intro K
    induction K with
    | zero =>
      intro x2 x4 H locs ls hf
      rw [fX11_answersOf_5] at hf
      cases hf
    | succ K ih =>
      intro x2 x4 H locs ls hf hP hD hS hl
      rw [fX11_answersOf_5] at hf
      refine lv_iload hx hb dX11_answersOf_5 (lv_at hl 3 rfl) ?_
      refine lv_aload_n hx hb dX11_answersOf_7 rfl (lv_at hl 0 rfl) ?_
      obtain ⟨r1, hr1, hf⟩ := bd hf
      refine zVi (As := []) (rest := [.int x4]) (ci := 5) (q0 := 0) (wn := [(a0, .inr (5, [.ref a0_rows, .int v0_size])), (a0_rows, .inl (D.2 2, n0_rows, .inr (.inl g0_rows))), (a1, .inr (4, [.ref a1_signs, .int v1_size])), (a1_signs, .inl (D.2 1, 12, .inl g1_signs))]) ⟨hx, hb, hml, hown, hts⟩ (mX7_size l D a0 a0_rows H.size v0_size r1 hr1) (cwV 0 hts gX11_answersOf_X7_size rfl rfl rfl (by decide +kernel) ⟨Nat.le_of_ble_eq_true rfl, Nat.le_of_ble_eq_true rfl⟩) hK hP hD hS hA [0] [1, 2, 3] [3, 0, 1, 2] rfl (by decide) rfl (by decide) (by decide) rfl (by decide) rfl rfl rfl hl.1 rfl (Nat.le_of_ble_eq_true rfl) dX11_answersOf_8 ⟨Nat.zero_le _, Nat.zero_le _⟩ (fun H locs hP hD hS => ?_)
      refine lv_icmp_ge (tgt := 41) hx hb dX11_answersOf_11 (by decide) (fun c_2 => ?_) (fun c_2 => ?_)
      · replace hf := ip c_2 hf
        refine lv_lload_n hx hb dX11_answersOf_41 rfl (lv_at hl 2 rfl) ?_
        have he := Option.some.inj hf
        rw [hQ]
        exact W.lret (v := x2) hx hb hr (fun t ht hW => by rw [← he]; exact ⟨⟨x2, (), rfl, rfl, by rw [ht]; exact hP, hD⟩, hS.F ht⟩) hS.2.2 dX11_answersOf_42
      · replace hf := im c_2 hf
        refine lv_aload_n hx hb dX11_answersOf_14 rfl (lv_at hl 1 rfl) ?_
        refine lv_aload_n hx hb dX11_answersOf_15 rfl (lv_at hl 0 rfl) ?_
        refine lv_iload hx hb dX11_answersOf_16 (lv_at hl 3 rfl) ?_
        obtain ⟨r3, hr3, hf⟩ := bd hf
        refine zVl (As := [.int x4]) (rest := [.ref a1]) (ci := 5) (q0 := 0) (wn := [(a0, .inr (5, [.ref a0_rows, .int v0_size])), (a0_rows, .inl (D.2 2, n0_rows, .inr (.inl g0_rows))), (a1, .inr (4, [.ref a1_signs, .int v1_size])), (a1_signs, .inl (D.2 1, 12, .inl g1_signs))]) ⟨hx, hb, hml, hown, hts⟩ (mX7_at l D a0 a0_rows H.size n0_rows v0_size g0_rows x4 r3 hr3) (cwV 1 hts gX11_answersOf_X7_at rfl rfl rfl (by decide +kernel) ⟨Nat.le_of_ble_eq_true rfl, Nat.le_of_ble_eq_true rfl⟩) hK hP hD hS hA [0, 1] [2, 3] [2, 3, 0, 1] rfl (by decide) rfl (by decide) (by decide) rfl (by decide) rfl rfl rfl hl.1 rfl (Nat.le_of_ble_eq_true rfl) dX11_answersOf_18 ⟨Nat.zero_le _, Nat.zero_le _⟩ (fun H locs hP hD hS => ?_)
        obtain ⟨r4, hr4, hf⟩ := bd hf
        refine zVz (As := [.long r3]) (rest := []) (ci := 4) (q0 := 0) (wn := [(a0, .inr (5, [.ref a0_rows, .int v0_size])), (a0_rows, .inl (D.2 2, n0_rows, .inr (.inl g0_rows))), (a1, .inr (4, [.ref a1_signs, .int v1_size])), (a1_signs, .inl (D.2 1, 12, .inl g1_signs))]) ⟨hx, hb, hml, hown, hts⟩ (mX5_isMetBy l D a1 a1_signs H.size v1_size g1_signs r3 N r4 hr4) (cwV 1 hts gX11_answersOf_X5_isMetBy rfl rfl rfl (by decide +kernel) ⟨Nat.le_of_ble_eq_true rfl, Nat.le_of_ble_eq_true rfl⟩) hK hP hD hS hA [2, 3] [0, 1] [0, 1, 2, 3] rfl (by decide) rfl (by decide) (by decide) rfl (by decide) rfl rfl rfl hl.1 rfl (Nat.le_of_ble_eq_true rfl) dX11_answersOf_21 ⟨Nat.zero_le _, Nat.zero_le _⟩ (fun H locs hb_5 hP hD hS => ?_)
        refine lv_if_eq (tgt := 35) hx hb dX11_answersOf_24 (by decide) (fun c_6 => ?_) (fun c_6 => ?_)
        · replace hf := ip c_6 hf
          refine lv_iinc (v := (x4 + (1 : Int32))) (lv' := [(4, .int (x4 + (1 : Int32))), (0, .ref a0), (1, .ref a1), (2, .long x2)]) hx hb dX11_answersOf_35 hl (k := 3) rfl rfl (by decide) rfl (fun ls hl => ?_)
          refine lv_goto (tgt := 5) hx hb dX11_answersOf_38 (by decide) ?_
          exact ih x2 (x4 + (1 : Int32)) H locs ls hf hP hD hS (lv_sub hl [1, 2, 3, 0] rfl)
        · replace hf := im c_6 hf
          refine lv_lload_n hx hb dX11_answersOf_27 rfl (lv_at hl 2 rfl) ?_
          refine lv_iload hx hb dX11_answersOf_28 (lv_at hl 3 rfl) ?_
          obtain ⟨r7, hr7, hf⟩ := bd hf
          refine zSl (As := [.int x4]) (rest := [.long x2]) (wn := [(a0, .inr (5, [.ref a0_rows, .int v0_size])), (a0_rows, .inl (D.2 2, n0_rows, .inr (.inl g0_rows))), (a1, .inr (4, [.ref a1_signs, .int v1_size])), (a1_signs, .inl (D.2 1, 12, .inl g1_signs))]) ⟨hx, hb, hml, hown, hts⟩ (mX0_bit l D H.size x4 r7 hr7) (va_cwS 1 hts gX11_answersOf_X0_bit rfl rfl rfl (by decide +kernel) ⟨Nat.le_of_ble_eq_true rfl, Nat.le_of_ble_eq_true rfl⟩) hK hP hD hS hA [] [0, 1, 2, 3] [0, 1, 2, 3] rfl (by decide) rfl (by decide) (by decide) rfl (by decide) rfl hl.1 rfl (Nat.le_of_ble_eq_true rfl) dX11_answersOf_30 ⟨Nat.zero_le _, Nat.zero_le _⟩ (fun H locs hP hD hS => ?_)
          refine lv_lor hx hb dX11_answersOf_33 ?_
          refine lv_lstore_n (lv' := [(2, .long (x2 ||| r7)), (0, .ref a0), (1, .ref a1), (4, .int x4)]) hx hb dX11_answersOf_34 rfl hl (by decide) rfl (fun ls hl => ?_)
          refine lv_iinc (v := (x4 + (1 : Int32))) (lv' := [(4, .int (x4 + (1 : Int32))), (2, .long (x2 ||| r7)), (0, .ref a0), (1, .ref a1)]) hx hb dX11_answersOf_35 hl (k := 3) rfl rfl (by decide) rfl (fun ls hl => ?_)
          refine lv_goto (tgt := 5) hx hb dX11_answersOf_38 (by decide) ?_
          exact ih (x2 ||| r7) (x4 + (1 : Int32)) H locs ls hf hP hD hS (lv_sub hl [2, 3, 1, 0] rfl)
  unfold fX11_answersOf at hf
  refine lv_lconst (v := 0) hx hb dX11_answersOf_0 (by decide) ?_
  refine lv_lstore_n (lv' := [(2, .long (0 : Int64)), (0, .ref a0), (1, .ref a1)]) hx hb dX11_answersOf_1 rfl hl (by decide) rfl (fun ls hl => ?_)
  refine lv_iconst (v := 0) hx hb dX11_answersOf_2 (by decide) ?_
  refine lv_istore (lv' := [(4, .int (0 : Int32)), (2, .long (0 : Int64)), (0, .ref a0), (1, .ref a1)]) hx hb dX11_answersOf_3 hl (by decide) rfl (fun ls hl => ?_)
  exact k5 N (0 : Int64) (0 : Int32) H locs ls hf hP hD hS (lv_sub hl [2, 3, 1, 0] rfl)
