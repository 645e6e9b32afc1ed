def fX6_checkPattern_20 (N : Nat) (v0_size : Int32) (g0_bytes : Nat → Int32) : Nat → Int32 → Int32 → Int32 → Option (Int32 × Int32)
  | 0, _, _, _ => none
  | K + 1, x2, v1_kind, v1_place =>
    Option.bind (fX10_size v0_size) fun r4 =>
    if r4 ≤ x2 then
      some (v1_kind, v1_place)
    else
      Option.bind (fX2_isThere v1_kind) fun r6 =>
      if r6 = (0 : Int32) then
        if x2 < (12 : Int32) then
          Option.bind (fX10_at v0_size g0_bytes x2) fun r10 =>
          Option.bind (fX5_isSign r10) fun r11 =>
          if r11 = (0 : Int32) then
            Option.bind (fX2_set v1_kind v1_place (1 : Int32) x2) fun r14 =>
            (fX6_checkPattern_20 N v0_size g0_bytes K) (x2 + (1 : Int32)) r14.1 r14.2
          else
            (fX6_checkPattern_20 N v0_size g0_bytes K) (x2 + (1 : Int32)) v1_kind v1_place
        else
          Option.bind (fX2_set v1_kind v1_place (5 : Int32) x2) fun r15 =>
          (fX6_checkPattern_20 N v0_size g0_bytes K) (x2 + (1 : Int32)) r15.1 r15.2
      else
        some (v1_kind, v1_place)
def fX6_checkPattern_14 (N : Nat) (v0_size : Int32) (g0_bytes : Nat → Int32) (y1 : Int32) (v1_kind : Int32) (v1_place : Int32) : Option (Int32 × Int32) :=
  Option.bind (fX2_set v1_kind v1_place y1 (0 : Int32)) fun r3 =>
  fX6_checkPattern_20 N v0_size g0_bytes N (0 : Int32) r3.1 r3.2
def fX6_checkPattern (N : Nat) (v0_size : Int32) (g0_bytes : Nat → Int32) (v1_kind : Int32) (v1_place : Int32) : Option (Int32 × Int32) :=
  Option.bind (fX10_size v0_size) fun r1 =>
  if r1 = (0 : Int32) then
    fX6_checkPattern_14 N v0_size g0_bytes (6 : Int32) v1_kind v1_place
  else
    fX6_checkPattern_14 N v0_size g0_bytes (0 : Int32) v1_kind v1_place
set_option maxHeartbeats 4000000 in
set_option maxRecDepth 100000 in
theorem mX6_checkPattern (l : Launch) (D : zG) (a0 : Nat) (a0_bytes : Nat) (a1 : Nat) (sz : Nat)  (v0_size : Int32) (g0_bytes : Nat → Int32) (v1_kind : Int32) (v1_place : Int32)  (N : Nat) (res : Int32 × Int32) (hf : fX6_checkPattern N v0_size g0_bytes v1_kind v1_place = some res) : Met l yX6_checkPattern wsX6_checkPattern ({ frames := 2, cells := 0, slots := 0, locals := 40 } : Room) (va_Pc [.ref a0, .ref a1] (zW D sz [(a0, .inr (7, [.ref a0_bytes, .int v0_size])), (a0_bytes, .inl (D.2 0, 400, .inl g0_bytes)), (a1, .inr (1, [.int v1_kind, .int v1_place]))])) (va_Qv (fun (_ : Unit) => True) (fun _ => zB D (va_A [(a0, .inr (7, [.ref a0_bytes, .int v0_size])), (a0_bytes, .inl (D.2 0, 400, .inl g0_bytes)), (a1, .inr (1, [.int v1_kind, .int v1_place]))] sz) [(a0, .inr (7, [.ref a0_bytes, .int v0_size])), (a0_bytes, .inl (D.2 0, 400, .inl g0_bytes)), (a1, .inr (1, [.int res.1, .int res.2]))]) (va_A [(a0, .inr (7, [.ref a0_bytes, .int v0_size])), (a0_bytes, .inl (D.2 0, 400, .inl g0_bytes)), (a1, .inr (1, [.int v1_kind, .int v1_place]))] sz)) 0 0 (va_A [(a0, .inr (7, [.ref a0_bytes, .int v0_size])), (a0_bytes, .inl (D.2 0, 400, .inl g0_bytes)), (a1, .inr (1, [.int v1_kind, .int v1_place]))] sz) := by
  refine Met.ofW (cc := cX6_checkPattern) (maxL := 3) (ret := none) (by decide) rfl ?_
  intro p e s m args below meth c s₁ B hml hv
  obtain ⟨rfl, hsz, hP, hK, hD0⟩ := hv
  have hx := B.exec
  have hb := B.bytes
  have hr := B.returns
  have hts := atoms_spec (ws := wsX6_checkPattern) B.pre
  have hown : s.vm.findClass RX6 = some m.cls := findClass_of_methodNamed B.named
  have hlocks := B.notSynchronized
  subst hsz
  have hD := hD0.self (sz := s.heap.size)
  generalize hAe : va_A [(a0, .inr (7, [.ref a0_bytes, .int v0_size])), (a0_bytes, .inl (D.2 0, 400, .inl g0_bytes)), (a1, .inr (1, [.int v1_kind, .int v1_place]))] s.heap.size = A at hD ⊢
  have hA : ∀ q : Nat, s.heap.size ≤ q → A q := fun q h => by rw [← hAe]; exact Or.inr h
  have hl := lv_entry ([.ref a0, .ref a1]) (n := 3) (Nat.le_of_ble_eq_true rfl)
  rw [lg_entry_eq]
  generalize (lg_sl ([.ref a0, .ref a1]) ++ List.replicate (3 - (lg_sl ([.ref a0, .ref a1])).length) Slot.unset).toArray = ls at hl ⊢
  have hl : lv_has ls 3 [(0, .ref a0), (1, .ref a1)] := hl
  refine zStart (A := A) hP (fun Q0 H locs hQ hP hS => ?_)
  have k20 : ∀ K : Nat, ∀ (x2 : Int32) (v1_kind : Int32) (v1_place : Int32) (H : Heap) (locs : List Loc) (ls : Array Slot), fX6_checkPattern_20 N v0_size g0_bytes K x2 v1_kind v1_place = some res → va_P D.1 vwCl [(a0, .inr (7, [.ref a0_bytes, .int v0_size])), (a0_bytes, .inl (D.2 0, 400, .inl g0_bytes)), (a1, .inr (1, [.int v1_kind, .int v1_place]))] H → va_D A [(a0, .inr (7, [.ref a0_bytes, .int v0_size])), (a0_bytes, .inl (D.2 0, 400, .inl g0_bytes)), (a1, .inr (1, [.int v1_kind, .int v1_place]))] → va_S A s.heap H locs → lv_has ls 3 [(0, .ref a0), (1, .ref a1), (2, .int x2)] → W p l e (headSpec wsX6_checkPattern ({ frames := 2, cells := 0, slots := 0, locals := 40 } : Room)).room s m ([.ref a0, .ref a1] : List Value).toArray below meth c H locs 0 0 Q0 (F0 m 20 ls []) := by
    intro K
    induction K with
    | zero =>
      intro x2 v1_kind v1_place H locs ls hf
      rw [fX6_checkPattern_20] at hf
      cases hf
    | succ K ih =>
      intro x2 v1_kind v1_place H locs ls hf hP hD hS hl
      rw [fX6_checkPattern_20] at hf
      refine lv_iload_n hx hb dX6_checkPattern_20 rfl (lv_at hl 2 rfl) ?_
      refine lv_aload_n hx hb dX6_checkPattern_21 rfl (lv_at hl 0 rfl) ?_
      obtain ⟨r4, hr4, hf⟩ := bd hf
      refine zVi (As := []) (rest := [.int x2]) (ci := 7) (q0 := 0) (wn := [(a0, .inr (7, [.ref a0_bytes, .int v0_size])), (a0_bytes, .inl (D.2 0, 400, .inl g0_bytes)), (a1, .inr (1, [.int v1_kind, .int v1_place]))]) ⟨hx, hb, hml, hown, hts⟩ (mX10_size l D a0 a0_bytes H.size v0_size r4 hr4) (cwV 0 hts gX6_checkPattern_X10_size rfl rfl rfl (by decide +kernel) ⟨Nat.le_of_ble_eq_true rfl, Nat.le_of_ble_eq_true rfl⟩) hK hP hD hS hA [0] [1, 2] [2, 0, 1] rfl (by decide) rfl (by decide) (by decide) rfl (by decide) rfl rfl rfl hl.1 rfl (Nat.le_of_ble_eq_true rfl) dX6_checkPattern_22 ⟨Nat.zero_le _, Nat.zero_le _⟩ (fun H locs hP hD hS => ?_)
      refine lv_icmp_ge (tgt := 73) hx hb dX6_checkPattern_25 (by decide) (fun c_5 => ?_) (fun c_5 => ?_)
      · replace hf := ip c_5 hf
        have he := Option.some.inj hf
        rw [hQ]
        exact W.vret hx hb hr (fun t ht hW => by rw [← he]; exact ⟨⟨(), rfl, trivial, by rw [ht]; exact hP, hD⟩, hS.F ht⟩) hS.2.2 dX6_checkPattern_73
      · replace hf := im c_5 hf
        refine lv_aload_n hx hb dX6_checkPattern_28 rfl (lv_at hl 1 rfl) ?_
        obtain ⟨r6, hr6, hf⟩ := bd hf
        refine zVz (As := []) (rest := []) (ci := 1) (q0 := 0) (wn := [(a0, .inr (7, [.ref a0_bytes, .int v0_size])), (a0_bytes, .inl (D.2 0, 400, .inl g0_bytes)), (a1, .inr (1, [.int v1_kind, .int v1_place]))]) ⟨hx, hb, hml, hown, hts⟩ (mX2_isThere l D a1 H.size v1_kind v1_place r6 hr6) (cwV 0 hts gX6_checkPattern_X2_isThere rfl rfl rfl (by decide +kernel) ⟨Nat.le_of_ble_eq_true rfl, Nat.le_of_ble_eq_true rfl⟩) hK hP hD hS hA [2] [0, 1] [0, 1, 2] rfl (by decide) rfl (by decide) (by decide) rfl (by decide) rfl rfl rfl hl.1 rfl (Nat.le_of_ble_eq_true rfl) dX6_checkPattern_29 ⟨Nat.zero_le _, Nat.zero_le _⟩ (fun H locs hb_7 hP hD hS => ?_)
        refine lv_if_ne (tgt := 73) hx hb dX6_checkPattern_32 (by decide) (fun c_8 => ?_) (fun c_8 => ?_)
        · replace hf := im c_8 hf
          have he := Option.some.inj hf
          rw [hQ]
          exact W.vret hx hb hr (fun t ht hW => by rw [← he]; exact ⟨⟨(), rfl, trivial, by rw [ht]; exact hP, hD⟩, hS.F ht⟩) hS.2.2 dX6_checkPattern_73
        · replace hf := ip c_8 hf
          refine lv_iload_n hx hb dX6_checkPattern_35 rfl (lv_at hl 2 rfl) ?_
          refine lv_bipush (v := 12) hx hb dX6_checkPattern_36 (by decide) ?_
          refine lv_icmp_lt (tgt := 50) hx hb dX6_checkPattern_38 (by decide) (fun c_9 => ?_) (fun c_9 => ?_)
          · replace hf := ip c_9 hf
            refine lv_aload_n hx hb dX6_checkPattern_50 rfl (lv_at hl 0 rfl) ?_
            refine lv_iload_n hx hb dX6_checkPattern_51 rfl (lv_at hl 2 rfl) ?_
            obtain ⟨r10, hr10, hf⟩ := bd hf
            refine zVi (As := [.int x2]) (rest := []) (ci := 7) (q0 := 0) (wn := [(a0, .inr (7, [.ref a0_bytes, .int v0_size])), (a0_bytes, .inl (D.2 0, 400, .inl g0_bytes)), (a1, .inr (1, [.int v1_kind, .int v1_place]))]) ⟨hx, hb, hml, hown, hts⟩ (mX10_at l D a0 a0_bytes H.size v0_size g0_bytes x2 r10 hr10) (cwV 1 hts gX6_checkPattern_X10_at rfl rfl rfl (by decide +kernel) ⟨Nat.le_of_ble_eq_true rfl, Nat.le_of_ble_eq_true rfl⟩) hK hP hD hS hA [0, 1] [2] [1, 2, 0] rfl (by decide) rfl (by decide) (by decide) rfl (by decide) rfl rfl rfl hl.1 rfl (Nat.le_of_ble_eq_true rfl) dX6_checkPattern_52 ⟨Nat.zero_le _, Nat.zero_le _⟩ (fun H locs hP hD hS => ?_)
            obtain ⟨r11, hr11, hf⟩ := bd hf
            refine zSz (As := [.int r10]) (rest := []) (wn := [(a0, .inr (7, [.ref a0_bytes, .int v0_size])), (a0_bytes, .inl (D.2 0, 400, .inl g0_bytes)), (a1, .inr (1, [.int v1_kind, .int v1_place]))]) ⟨hx, hb, hml, hown, hts⟩ (mX5_isSign l D H.size r10 r11 hr11) (va_cwS 1 hts gX6_checkPattern_X5_isSign rfl rfl rfl (by decide +kernel) ⟨Nat.le_of_ble_eq_true rfl, Nat.le_of_ble_eq_true rfl⟩) hK hP hD hS hA [] [0, 1, 2] [0, 1, 2] rfl (by decide) rfl (by decide) (by decide) rfl (by decide) rfl hl.1 rfl (Nat.le_of_ble_eq_true rfl) dX6_checkPattern_55 ⟨Nat.zero_le _, Nat.zero_le _⟩ (fun H locs hb_12 hP hD hS => ?_)
            refine lv_if_ne (tgt := 67) hx hb dX6_checkPattern_58 (by decide) (fun c_13 => ?_) (fun c_13 => ?_)
            · replace hf := im c_13 hf
              refine lv_iinc (v := (x2 + (1 : Int32))) (lv' := [(2, .int (x2 + (1 : Int32))), (0, .ref a0), (1, .ref a1)]) hx hb dX6_checkPattern_67 hl (k := 2) rfl rfl (by decide) rfl (fun ls hl => ?_)
              refine lv_goto (tgt := 20) hx hb dX6_checkPattern_70 (by decide) ?_
              exact ih (x2 + (1 : Int32)) v1_kind v1_place H locs ls hf hP hD hS (lv_sub hl [1, 2, 0] rfl)
            · replace hf := ip c_13 hf
              refine lv_aload_n hx hb dX6_checkPattern_61 rfl (lv_at hl 1 rfl) ?_
              refine lv_iconst (v := 1) hx hb dX6_checkPattern_62 (by decide) ?_
              refine lv_iload_n hx hb dX6_checkPattern_63 rfl (lv_at hl 2 rfl) ?_
              obtain ⟨r14, hr14, hf⟩ := bd hf
              refine zVv (As := [.int (1 : Int32), .int x2]) (rest := []) (ci := 1) (q0 := 0) (wn := [(a0, .inr (7, [.ref a0_bytes, .int v0_size])), (a0_bytes, .inl (D.2 0, 400, .inl g0_bytes)), (a1, .inr (1, [.int r14.1, .int r14.2]))]) ⟨hx, hb, hml, hown, hts⟩ (mX2_set l D a1 H.size v1_kind v1_place (1 : Int32) x2 r14 hr14) (cwV 2 hts gX6_checkPattern_X2_set rfl rfl rfl (by decide +kernel) ⟨Nat.le_of_ble_eq_true rfl, Nat.le_of_ble_eq_true rfl⟩) hK hP hD hS hA [2] [0, 1] [0, 1, 2] rfl (by decide) rfl (by decide) (by decide) rfl (by decide) rfl rfl rfl hl.1 rfl (Nat.le_of_ble_eq_true rfl) dX6_checkPattern_64 ⟨Nat.zero_le _, Nat.zero_le _⟩ (fun H locs hP hD hS => ?_)
              refine lv_iinc (v := (x2 + (1 : Int32))) (lv' := [(2, .int (x2 + (1 : Int32))), (0, .ref a0), (1, .ref a1)]) hx hb dX6_checkPattern_67 hl (k := 2) rfl rfl (by decide) rfl (fun ls hl => ?_)
              refine lv_goto (tgt := 20) hx hb dX6_checkPattern_70 (by decide) ?_
              exact ih (x2 + (1 : Int32)) r14.1 r14.2 H locs ls hf hP hD hS (lv_sub hl [1, 2, 0] rfl)
          · replace hf := im c_9 hf
            refine lv_aload_n hx hb dX6_checkPattern_41 rfl (lv_at hl 1 rfl) ?_
            refine lv_iconst (v := 5) hx hb dX6_checkPattern_42 (by decide) ?_
            refine lv_iload_n hx hb dX6_checkPattern_43 rfl (lv_at hl 2 rfl) ?_
            obtain ⟨r15, hr15, hf⟩ := bd hf
            refine zVv (As := [.int (5 : Int32), .int x2]) (rest := []) (ci := 1) (q0 := 0) (wn := [(a0, .inr (7, [.ref a0_bytes, .int v0_size])), (a0_bytes, .inl (D.2 0, 400, .inl g0_bytes)), (a1, .inr (1, [.int r15.1, .int r15.2]))]) ⟨hx, hb, hml, hown, hts⟩ (mX2_set l D a1 H.size v1_kind v1_place (5 : Int32) x2 r15 hr15) (cwV 2 hts gX6_checkPattern_X2_set rfl rfl rfl (by decide +kernel) ⟨Nat.le_of_ble_eq_true rfl, Nat.le_of_ble_eq_true rfl⟩) hK hP hD hS hA [2] [0, 1] [0, 1, 2] rfl (by decide) rfl (by decide) (by decide) rfl (by decide) rfl rfl rfl hl.1 rfl (Nat.le_of_ble_eq_true rfl) dX6_checkPattern_44 ⟨Nat.zero_le _, Nat.zero_le _⟩ (fun H locs hP hD hS => ?_)
            refine lv_goto (tgt := 67) hx hb dX6_checkPattern_47 (by decide) ?_
            refine lv_iinc (v := (x2 + (1 : Int32))) (lv' := [(2, .int (x2 + (1 : Int32))), (0, .ref a0), (1, .ref a1)]) hx hb dX6_checkPattern_67 hl (k := 2) rfl rfl (by decide) rfl (fun ls hl => ?_)
            refine lv_goto (tgt := 20) hx hb dX6_checkPattern_70 (by decide) ?_
            exact ih (x2 + (1 : Int32)) r15.1 r15.2 H locs ls hf hP hD hS (lv_sub hl [1, 2, 0] rfl)
  have k14 : ∀ (y1 : Int32) (v1_kind : Int32) (v1_place : Int32) (H : Heap) (locs : List Loc) (ls : Array Slot), fX6_checkPattern_14 N v0_size g0_bytes y1 v1_kind v1_place = some res → va_P D.1 vwCl [(a0, .inr (7, [.ref a0_bytes, .int v0_size])), (a0_bytes, .inl (D.2 0, 400, .inl g0_bytes)), (a1, .inr (1, [.int v1_kind, .int v1_place]))] H → va_D A [(a0, .inr (7, [.ref a0_bytes, .int v0_size])), (a0_bytes, .inl (D.2 0, 400, .inl g0_bytes)), (a1, .inr (1, [.int v1_kind, .int v1_place]))] → va_S A s.heap H locs → lv_has ls 3 [(0, .ref a0), (1, .ref a1)] → W p l e (headSpec wsX6_checkPattern ({ frames := 2, cells := 0, slots := 0, locals := 40 } : Room)).room s m ([.ref a0, .ref a1] : List Value).toArray below meth c H locs 0 0 Q0 (F0 m 14 ls [.int y1, .ref a1]) := by
    intro y1 v1_kind v1_place H locs ls hf hP hD hS hl
    unfold fX6_checkPattern_14 at hf
    refine lv_iconst (v := 0) hx hb dX6_checkPattern_14 (by decide) ?_
    obtain ⟨r3, hr3, hf⟩ := bd hf
    refine zVv (As := [.int y1, .int (0 : Int32)]) (rest := []) (ci := 1) (q0 := 0) (wn := [(a0, .inr (7, [.ref a0_bytes, .int v0_size])), (a0_bytes, .inl (D.2 0, 400, .inl g0_bytes)), (a1, .inr (1, [.int r3.1, .int r3.2]))]) ⟨hx, hb, hml, hown, hts⟩ (mX2_set l D a1 H.size v1_kind v1_place y1 (0 : Int32) r3 hr3) (cwV 2 hts gX6_checkPattern_X2_set rfl rfl rfl (by decide +kernel) ⟨Nat.le_of_ble_eq_true rfl, Nat.le_of_ble_eq_true rfl⟩) hK hP hD hS hA [2] [0, 1] [0, 1, 2] rfl (by decide) rfl (by decide) (by decide) rfl (by decide) rfl rfl rfl hl.1 rfl (Nat.le_of_ble_eq_true rfl) dX6_checkPattern_15 ⟨Nat.zero_le _, Nat.zero_le _⟩ (fun H locs hP hD hS => ?_)
    refine lv_iconst (v := 0) hx hb dX6_checkPattern_18 (by decide) ?_
    refine lv_istore_n (lv' := [(2, .int (0 : Int32)), (0, .ref a0), (1, .ref a1)]) hx hb dX6_checkPattern_19 rfl hl (by decide) rfl (fun ls hl => ?_)
    exact k20 N (0 : Int32) r3.1 r3.2 H locs ls hf hP hD hS (lv_sub hl [1, 2, 0] rfl)
  unfold fX6_checkPattern at hf
  refine lv_aload_n hx hb dX6_checkPattern_0 rfl (lv_at hl 1 rfl) ?_
  refine lv_aload_n hx hb dX6_checkPattern_1 rfl (lv_at hl 0 rfl) ?_
  obtain ⟨r1, hr1, hf⟩ := bd hf
  refine zVi (As := []) (rest := [.ref a1]) (ci := 7) (q0 := 0) (wn := [(a0, .inr (7, [.ref a0_bytes, .int v0_size])), (a0_bytes, .inl (D.2 0, 400, .inl g0_bytes)), (a1, .inr (1, [.int v1_kind, .int v1_place]))]) ⟨hx, hb, hml, hown, hts⟩ (mX10_size l D a0 a0_bytes H.size v0_size r1 hr1) (cwV 0 hts gX6_checkPattern_X10_size rfl rfl rfl (by decide +kernel) ⟨Nat.le_of_ble_eq_true rfl, Nat.le_of_ble_eq_true rfl⟩) hK hP hD hS hA [0] [1, 2] [2, 0, 1] rfl (by decide) rfl (by decide) (by decide) rfl (by decide) rfl rfl rfl hl.1 rfl (Nat.le_of_ble_eq_true rfl) dX6_checkPattern_2 ⟨Nat.zero_le _, Nat.zero_le _⟩ (fun H locs hP hD hS => ?_)
  refine lv_if_ne (tgt := 13) hx hb dX6_checkPattern_5 (by decide) (fun c_2 => ?_) (fun c_2 => ?_)
  · replace hf := im c_2 hf
    refine lv_iconst (v := 0) hx hb dX6_checkPattern_13 (by decide) ?_
    exact k14 (0 : Int32) v1_kind v1_place H locs ls hf hP hD hS hl
  · replace hf := ip c_2 hf
    refine lv_bipush (v := 6) hx hb dX6_checkPattern_8 (by decide) ?_
    refine lv_goto (tgt := 14) hx hb dX6_checkPattern_10 (by decide) ?_
    exact k14 (6 : Int32) v1_kind v1_place H locs ls hf hP hD hS hl
def fX6_onlyWord_25 (N : Nat) (v0_size : Int32) (g0_bytes : Nat → Int32) (y0 : Int32) (x1 : Int32) : Option (Int64) :=
  if y0 = (0 : Int32) then
    some ((0 : Int64))
  else
    Option.bind (fX6_rowFrom N v0_size g0_bytes (0 : Int32) x1) fun r6 =>
    some (r6)
def fX6_onlyWord_24 (N : Nat) (v0_size : Int32) (g0_bytes : Nat → Int32) (x1 : Int32) : Option (Int64) :=
  fX6_onlyWord_25 N v0_size g0_bytes (0 : Int32) x1
def fX6_onlyWord (N : Nat) (v0_size : Int32) (g0_bytes : Nat → Int32) : Option (Int64) :=
  Option.bind (fX6_lettersFrom N v0_size g0_bytes (0 : Int32)) fun r1 =>
  Option.bind (fX10_size v0_size) fun r2 =>
  if r1 = r2 then
    if (7 : Int32) < r1 then
      fX6_onlyWord_24 N v0_size g0_bytes r1
    else
      fX6_onlyWord_25 N v0_size g0_bytes (1 : Int32) r1
  else
    fX6_onlyWord_24 N v0_size g0_bytes r1
set_option maxHeartbeats 4000000 in
set_option maxRecDepth 100000 in
theorem mX6_onlyWord (l : Launch) (D : zG) (a0 : Nat) (a0_bytes : Nat) (sz : Nat)  (v0_size : Int32) (g0_bytes : Nat → Int32)  (N : Nat) (res : Int64) (hf : fX6_onlyWord N v0_size g0_bytes = some res) : Met l yX6_onlyWord wsX6_onlyWord ({ frames := 3, cells := 0, slots := 0, locals := 68 } : Room) (va_Pc [.ref a0] (zW D sz [(a0, .inr (7, [.ref a0_bytes, .int v0_size])), (a0_bytes, .inl (D.2 0, 400, .inl g0_bytes))])) (va_Ql (fun r (_ : Unit) => r = res) (fun _ => zB D (va_A [(a0, .inr (7, [.ref a0_bytes, .int v0_size])), (a0_bytes, .inl (D.2 0, 400, .inl g0_bytes))] sz) [(a0, .inr (7, [.ref a0_bytes, .int v0_size])), (a0_bytes, .inl (D.2 0, 400, .inl g0_bytes))]) (va_A [(a0, .inr (7, [.ref a0_bytes, .int v0_size])), (a0_bytes, .inl (D.2 0, 400, .inl g0_bytes))] sz)) 0 0 (va_A [(a0, .inr (7, [.ref a0_bytes, .int v0_size])), (a0_bytes, .inl (D.2 0, 400, .inl g0_bytes))] sz) := by
  refine Met.ofW (cc := cX6_onlyWord) (maxL := 3) (ret := (some .long)) (by decide) rfl ?_
  intro p e s m args below meth c s₁ B hml hv
  obtain ⟨rfl, hsz, hP, hK, hD0⟩ := hv
  have hx := B.exec
  have hb := B.bytes
  have hr := B.returns
  have hts := atoms_spec (ws := wsX6_onlyWord) B.pre
  have hown : s.vm.findClass RX6 = some m.cls := findClass_of_methodNamed B.named
  have hlocks := B.notSynchronized
  subst hsz
  have hD := hD0.self (sz := s.heap.size)
  generalize hAe : va_A [(a0, .inr (7, [.ref a0_bytes, .int v0_size])), (a0_bytes, .inl (D.2 0, 400, .inl g0_bytes))] s.heap.size = A at hD ⊢
  have hA : ∀ q : Nat, s.heap.size ≤ q → A q := fun q h => by rw [← hAe]; exact Or.inr h
  have hl := lv_entry ([.ref a0]) (n := 3) (Nat.le_of_ble_eq_true rfl)
  rw [lg_entry_eq]
  generalize (lg_sl ([.ref a0]) ++ List.replicate (3 - (lg_sl ([.ref a0])).length) Slot.unset).toArray = ls at hl ⊢
  have hl : lv_has ls 3 [(0, .ref a0)] := hl
  refine zStart (A := A) hP (fun Q0 H locs hQ hP hS => ?_)
  have k25 : ∀ (y0 : Int32) (x1 : Int32) (H : Heap) (locs : List Loc) (ls : Array Slot), fX6_onlyWord_25 N v0_size g0_bytes y0 x1 = some res → va_P D.1 vwCl [(a0, .inr (7, [.ref a0_bytes, .int v0_size])), (a0_bytes, .inl (D.2 0, 400, .inl g0_bytes))] H → va_D A [(a0, .inr (7, [.ref a0_bytes, .int v0_size])), (a0_bytes, .inl (D.2 0, 400, .inl g0_bytes))] → va_S A s.heap H locs → lv_has ls 3 [(0, .ref a0), (1, .int x1)] → W p l e (headSpec wsX6_onlyWord ({ frames := 3, cells := 0, slots := 0, locals := 68 } : Room)).room s m ([.ref a0] : List Value).toArray below meth c H locs 0 0 Q0 (F0 m 25 ls [.int y0]) := by
    intro y0 x1 H locs ls hf hP hD hS hl
    unfold fX6_onlyWord_25 at hf
    refine lv_istore_n (lv' := [(2, .int y0), (0, .ref a0), (1, .int x1)]) hx hb dX6_onlyWord_25 rfl hl (by decide) rfl (fun ls hl => ?_)
    refine lv_iload_n hx hb dX6_onlyWord_26 rfl (lv_at hl 0 rfl) ?_
    refine lv_if_eq (tgt := 39) hx hb dX6_onlyWord_27 (by decide) (fun c_5 => ?_) (fun c_5 => ?_)
    · replace hf := ip c_5 hf
      refine lv_lconst (v := 0) hx hb dX6_onlyWord_39 (by decide) ?_
      have he := Option.some.inj hf
      rw [hQ]
      exact W.lret (v := (0 : Int64)) hx hb hr (fun t ht hW => by rw [← he]; exact ⟨⟨(0 : Int64), (), rfl, rfl, by rw [ht]; exact hP, hD⟩, hS.F ht⟩) hS.2.2 dX6_onlyWord_40
    · replace hf := im c_5 hf
      refine lv_aload_n hx hb dX6_onlyWord_30 rfl (lv_at hl 1 rfl) ?_
      refine lv_iconst (v := 0) hx hb dX6_onlyWord_31 (by decide) ?_
      refine lv_iload_n hx hb dX6_onlyWord_32 rfl (lv_at hl 2 rfl) ?_
      obtain ⟨r6, hr6, hf⟩ := bd hf
      refine zSl (As := [.ref a0, .int (0 : Int32), .int x1]) (rest := []) (wn := [(a0, .inr (7, [.ref a0_bytes, .int v0_size])), (a0_bytes, .inl (D.2 0, 400, .inl g0_bytes))]) ⟨hx, hb, hml, hown, hts⟩ (mX6_rowFrom l D a0 a0_bytes H.size v0_size g0_bytes (0 : Int32) x1 N r6 hr6) (va_cwS 3 hts gX6_onlyWord_X6_rowFrom rfl rfl rfl (by decide +kernel) ⟨Nat.le_of_ble_eq_true rfl, Nat.le_of_ble_eq_true rfl⟩) hK hP hD hS hA [0, 1] [] [0, 1] rfl (by decide) rfl (by decide) (by decide) rfl (by decide) rfl hl.1 rfl (Nat.le_of_ble_eq_true rfl) dX6_onlyWord_33 ⟨Nat.zero_le _, Nat.zero_le _⟩ (fun H locs hP hD hS => ?_)
      refine lv_goto (tgt := 40) hx hb dX6_onlyWord_36 (by decide) ?_
      have he := Option.some.inj hf
      rw [hQ]
      exact W.lret (v := r6) hx hb hr (fun t ht hW => by rw [← he]; exact ⟨⟨r6, (), rfl, rfl, by rw [ht]; exact hP, hD⟩, hS.F ht⟩) hS.2.2 dX6_onlyWord_40
  have k24 : ∀ (x1 : Int32) (H : Heap) (locs : List Loc) (ls : Array Slot), fX6_onlyWord_24 N v0_size g0_bytes x1 = some res → va_P D.1 vwCl [(a0, .inr (7, [.ref a0_bytes, .int v0_size])), (a0_bytes, .inl (D.2 0, 400, .inl g0_bytes))] H → va_D A [(a0, .inr (7, [.ref a0_bytes, .int v0_size])), (a0_bytes, .inl (D.2 0, 400, .inl g0_bytes))] → va_S A s.heap H locs → lv_has ls 3 [(0, .ref a0), (1, .int x1)] → W p l e (headSpec wsX6_onlyWord ({ frames := 3, cells := 0, slots := 0, locals := 68 } : Room)).room s m ([.ref a0] : List Value).toArray below meth c H locs 0 0 Q0 (F0 m 24 ls []) := by
    intro x1 H locs ls hf hP hD hS hl
    unfold fX6_onlyWord_24 at hf
    refine lv_iconst (v := 0) hx hb dX6_onlyWord_24 (by decide) ?_
    exact k25 (0 : Int32) x1 H locs ls hf hP hD hS hl
  unfold fX6_onlyWord at hf
  refine lv_aload_n hx hb dX6_onlyWord_0 rfl (lv_at hl 0 rfl) ?_
  refine lv_iconst (v := 0) hx hb dX6_onlyWord_1 (by decide) ?_
  obtain ⟨r1, hr1, hf⟩ := bd hf
  refine zSi (As := [.ref a0, .int (0 : Int32)]) (rest := []) (wn := [(a0, .inr (7, [.ref a0_bytes, .int v0_size])), (a0_bytes, .inl (D.2 0, 400, .inl g0_bytes))]) ⟨hx, hb, hml, hown, hts⟩ (mX6_lettersFrom l D a0 a0_bytes H.size v0_size g0_bytes (0 : Int32) N r1 hr1) (va_cwS 2 hts gX6_onlyWord_X6_lettersFrom rfl rfl rfl (by decide +kernel) ⟨Nat.le_of_ble_eq_true rfl, Nat.le_of_ble_eq_true rfl⟩) hK hP hD hS hA [0, 1] [] [0, 1] rfl (by decide) rfl (by decide) (by decide) rfl (by decide) rfl hl.1 rfl (Nat.le_of_ble_eq_true rfl) dX6_onlyWord_2 ⟨Nat.zero_le _, Nat.zero_le _⟩ (fun H locs hP hD hS => ?_)
  refine lv_istore_n (lv' := [(1, .int r1), (0, .ref a0)]) hx hb dX6_onlyWord_5 rfl hl (by decide) rfl (fun ls hl => ?_)
  refine lv_iload_n hx hb dX6_onlyWord_6 rfl (lv_at hl 0 rfl) ?_
  refine lv_aload_n hx hb dX6_onlyWord_7 rfl (lv_at hl 1 rfl) ?_
  obtain ⟨r2, hr2, hf⟩ := bd hf
  refine zVi (As := []) (rest := [.int r1]) (ci := 7) (q0 := 0) (wn := [(a0, .inr (7, [.ref a0_bytes, .int v0_size])), (a0_bytes, .inl (D.2 0, 400, .inl g0_bytes))]) ⟨hx, hb, hml, hown, hts⟩ (mX10_size l D a0 a0_bytes H.size v0_size r2 hr2) (cwV 0 hts gX6_onlyWord_X10_size rfl rfl rfl (by decide +kernel) ⟨Nat.le_of_ble_eq_true rfl, Nat.le_of_ble_eq_true rfl⟩) hK hP hD hS hA [0] [1] [1, 0] rfl (by decide) rfl (by decide) (by decide) rfl (by decide) rfl rfl rfl hl.1 rfl (Nat.le_of_ble_eq_true rfl) dX6_onlyWord_8 ⟨Nat.zero_le _, Nat.zero_le _⟩ (fun H locs hP hD hS => ?_)
  refine lv_icmp_ne (tgt := 24) hx hb dX6_onlyWord_11 (by decide) (fun c_3 => ?_) (fun c_3 => ?_)
  · replace hf := im c_3 hf
    exact k24 r1 H locs ls hf hP hD hS (lv_sub hl [1, 0] rfl)
  · replace hf := ip c_3 hf
    refine lv_iload_n hx hb dX6_onlyWord_14 rfl (lv_at hl 0 rfl) ?_
    refine lv_bipush (v := 7) hx hb dX6_onlyWord_15 (by decide) ?_
    refine lv_icmp_gt (tgt := 24) hx hb dX6_onlyWord_17 (by decide) (fun c_4 => ?_) (fun c_4 => ?_)
    · replace hf := ip c_4 hf
      exact k24 r1 H locs ls hf hP hD hS (lv_sub hl [1, 0] rfl)
    · replace hf := im c_4 hf
      refine lv_iconst (v := 1) hx hb dX6_onlyWord_20 (by decide) ?_
      refine lv_goto (tgt := 25) hx hb dX6_onlyWord_21 (by decide) ?_
      exact k25 (1 : Int32) r1 H locs ls hf hP hD hS (lv_sub hl [1, 0] rfl)
def fX7_drop (N : Nat) (n0_rows : Nat) (v0_size : Int32) (g0_rows : Nat → Int64) (p1 : Int64) : Option (Int32 × Int32 × (Nat → Int64)) :=
  Option.bind (fX7_below N n0_rows v0_size g0_rows p1) fun r1 =>
  Option.bind (fX7_isAt n0_rows v0_size g0_rows r1 p1) fun r2 =>
  if r2 = (0 : Int32) then
    some ((0 : Int32), v0_size, g0_rows)
  else
    if (r1 + (1 : Int32)) < 0 ∨ r1 < 0 ∨ ((v0_size - (1 : Int32)) - r1) < 0 ∨ n0_rows < ((r1 + (1 : Int32))).toNatClampNeg + (((v0_size - (1 : Int32)) - r1)).toNatClampNeg ∨ n0_rows < (r1).toNatClampNeg + (((v0_size - (1 : Int32)) - r1)).toNatClampNeg then none else
    some ((1 : Int32), (v0_size - (1 : Int32)), (va_cpy g0_rows g0_rows ((r1 + (1 : Int32))).toNatClampNeg (r1).toNatClampNeg (((v0_size - (1 : Int32)) - r1)).toNatClampNeg))
set_option maxHeartbeats 4000000 in
set_option maxRecDepth 100000 in
theorem mX7_drop (l : Launch) (D : zG) (a0 : Nat) (a0_rows : Nat) (sz : Nat) (n0_rows : Nat) (v0_size : Int32) (g0_rows : Nat → Int64) (p1 : Int64) (N : Nat) (res : Int32 × Int32 × (Nat → Int64)) (hf : fX7_drop N n0_rows v0_size g0_rows p1 = some res) : Met l yX7_drop wsX7_drop ({ frames := 1, cells := 0, slots := 0, locals := 40 } : Room) (va_Pc [.ref a0, .long p1] (zW D sz [(a0, .inr (5, [.ref a0_rows, .int v0_size])), (a0_rows, .inl (D.2 2, n0_rows, .inr (.inl g0_rows)))])) (va_Qi (fun r (_ : Unit) => r = res.1 ∧ (r = 0 ∨ r = 1)) (fun _ => zB D (va_A [(a0, .inr (5, [.ref a0_rows, .int v0_size])), (a0_rows, .inl (D.2 2, n0_rows, .inr (.inl g0_rows)))] sz) [(a0, .inr (5, [.ref a0_rows, .int res.2.1])), (a0_rows, .inl (D.2 2, n0_rows, .inr (.inl res.2.2)))]) (va_A [(a0, .inr (5, [.ref a0_rows, .int v0_size])), (a0_rows, .inl (D.2 2, n0_rows, .inr (.inl g0_rows)))] sz)) 0 0 (va_A [(a0, .inr (5, [.ref a0_rows, .int v0_size])), (a0_rows, .inl (D.2 2, n0_rows, .inr (.inl g0_rows)))] sz) := by
  refine Met.ofW (cc := cX7_drop) (maxL := 4) (ret := (some .boolean)) (by decide) rfl ?_
  intro p e s m args below meth c s₁ B hml hv
  obtain ⟨rfl, hsz, hP, hK, hD0⟩ := hv
  have hx := B.exec
  have hb := B.bytes
  have hr := B.returns
  have hts := atoms_spec (ws := wsX7_drop) B.pre
  have hown : s.vm.findClass RX7 = some m.cls := findClass_of_methodNamed B.named
  have hlocks := B.notSynchronized
  subst hsz
  have hD := hD0.self (sz := s.heap.size)
  generalize hAe : va_A [(a0, .inr (5, [.ref a0_rows, .int v0_size])), (a0_rows, .inl (D.2 2, n0_rows, .inr (.inl g0_rows)))] s.heap.size = A at hD ⊢
  have hA : ∀ q : Nat, s.heap.size ≤ q → A q := fun q h => by rw [← hAe]; exact Or.inr h
  have l24 := zat hts 1 (w := .fieldLink RX7 24 "TurnedWords$Rising" "size" "I") rfl
  have l18 := zat hts 2 (w := .fieldLink RX7 18 "TurnedWords$Rising" "rows" "[J") rfl
  have l42 := zat hts 3 (w := .methodLink RX7 42 arraycopyName) rfl
  have hnatA := zat hts 4 (w := .native arraycopyName) rfl
  have hstA := zat hts 5 (w := .static arraycopyName) rfl
  have hinS := zat hts 6 (w := .initialized "java/lang/System") rfl
  have hwX7 : ∀ w ∈ u_ws RX7 TX7 2, w ∈ wsX7_drop := fun w h => List.mem_cons_of_mem _ (List.mem_append_right _ h)
  have hl := lv_entry ([.ref a0, .long p1]) (n := 4) (Nat.le_of_ble_eq_true rfl)
  rw [lg_entry_eq]
  generalize (lg_sl ([.ref a0, .long p1]) ++ List.replicate (4 - (lg_sl ([.ref a0, .long p1])).length) Slot.unset).toArray = ls at hl ⊢
  have hl : lv_has ls 4 [(0, .ref a0), (1, .long p1)] := hl
  refine zStart (A := A) hP (fun Q0 H locs hQ hP hS => ?_)
  unfold fX7_drop at hf
  refine lv_aload_n hx hb dX7_drop_0 rfl (lv_at hl 0 rfl) ?_
  refine lv_lload_n hx hb dX7_drop_1 rfl (lv_at hl 1 rfl) ?_
  obtain ⟨r1, hr1, hf⟩ := bd hf
  refine zVi (As := [.long p1]) (rest := []) (ci := 5) (q0 := 0) (wn := [(a0, .inr (5, [.ref a0_rows, .int v0_size])), (a0_rows, .inl (D.2 2, n0_rows, .inr (.inl g0_rows)))]) ⟨hx, hb, hml, hown, hts⟩ (mX7_below l D a0 a0_rows H.size n0_rows v0_size g0_rows p1 N r1 hr1) (cwV 1 hts gX7_drop_X7_below rfl rfl rfl (by decide +kernel) ⟨Nat.le_of_ble_eq_true rfl, Nat.le_of_ble_eq_true rfl⟩) hK hP hD hS hA [0, 1] [] [0, 1] rfl (by decide) rfl (by decide) (by decide) rfl (by decide) rfl rfl rfl hl.1 rfl (Nat.le_of_ble_eq_true rfl) dX7_drop_2 ⟨Nat.zero_le _, Nat.zero_le _⟩ (fun H locs hP hD hS => ?_)
  refine lv_istore_n (lv' := [(3, .int r1), (0, .ref a0), (1, .long p1)]) hx hb dX7_drop_5 rfl hl (by decide) rfl (fun ls hl => ?_)
  refine lv_aload_n hx hb dX7_drop_6 rfl (lv_at hl 1 rfl) ?_
  refine lv_iload_n hx hb dX7_drop_7 rfl (lv_at hl 0 rfl) ?_
  refine lv_lload_n hx hb dX7_drop_8 rfl (lv_at hl 2 rfl) ?_
  obtain ⟨r2, hr2, hf⟩ := bd hf
  refine zVz (As := [.int r1, .long p1]) (rest := []) (ci := 5) (q0 := 0) (wn := [(a0, .inr (5, [.ref a0_rows, .int v0_size])), (a0_rows, .inl (D.2 2, n0_rows, .inr (.inl g0_rows)))]) ⟨hx, hb, hml, hown, hts⟩ (mX7_isAt l D a0 a0_rows H.size n0_rows v0_size g0_rows r1 p1 r2 hr2) (cwV 2 hts gX7_drop_X7_isAt rfl rfl rfl (by decide +kernel) ⟨Nat.le_of_ble_eq_true rfl, Nat.le_of_ble_eq_true rfl⟩) hK hP hD hS hA [0, 1] [] [0, 1] rfl (by decide) rfl (by decide) (by decide) rfl (by decide) rfl rfl rfl hl.1 rfl (Nat.le_of_ble_eq_true rfl) dX7_drop_9 ⟨Nat.zero_le _, Nat.zero_le _⟩ (fun H locs hb_3 hP hD hS => ?_)
  refine lv_if_ne (tgt := 17) hx hb dX7_drop_12 (by decide) (fun c_4 => ?_) (fun c_4 => ?_)
  · replace hf := im c_4 hf
    refine lv_aload_n hx hb dX7_drop_17 rfl (lv_at hl 1 rfl) ?_
    refine lv_dup hx hb dX7_drop_18 rfl ?_
    refine va_get (D := D.1) (ci := 5) (v := .int v0_size) (C := RX7) (T := TX7) (N := 2) hx hb hts hwX7 hown hK.1 hP 0 rfl rfl 1 (by decide) l24 (fun _ h9 => h9) rfl dX7_drop_19 ?_
    refine lv_iconst (v := 1) hx hb dX7_drop_22 (by decide) ?_
    refine lv_isub hx hb dX7_drop_23 ?_
    refine va_put (D := D.1) (ci := 5) (v := .int (v0_size - (1 : Int32))) (ty := .int) (C := RX7) (T := TX7) (N := 2) hx hb hts hwX7 tyX7 tyX7_ok nmX7 hown hK.1 hP hD hS 0 rfl rfl 1 (by decide) l24 (fun _ h9 => h9) rfl (by decide +kernel) rfl rfl (Nat.le_of_ble_eq_true rfl) dX7_drop_24 (fun H locs hP hD hS => ?_)
    have hP : va_P D.1 vwCl [(a0, .inr (5, [.ref a0_rows, .int (v0_size - (1 : Int32))])), (a0_rows, .inl (D.2 2, n0_rows, .inr (.inl g0_rows)))] H := hP
    have hD : va_D A [(a0, .inr (5, [.ref a0_rows, .int (v0_size - (1 : Int32))])), (a0_rows, .inl (D.2 2, n0_rows, .inr (.inl g0_rows)))] := hD
    refine lv_aload_n hx hb dX7_drop_27 rfl (lv_at hl 1 rfl) ?_
    refine va_get (D := D.1) (ci := 5) (v := .ref a0_rows) (C := RX7) (T := TX7) (N := 2) hx hb hts hwX7 hown hK.1 hP 0 rfl rfl 0 (by decide) l18 (fun _ h9 => h9) rfl dX7_drop_28 ?_
    refine lv_iload_n hx hb dX7_drop_31 rfl (lv_at hl 0 rfl) ?_
    refine lv_iconst (v := 1) hx hb dX7_drop_32 (by decide) ?_
    refine lv_iadd hx hb dX7_drop_33 ?_
    refine lv_aload_n hx hb dX7_drop_34 rfl (lv_at hl 1 rfl) ?_
    refine va_get (D := D.1) (ci := 5) (v := .ref a0_rows) (C := RX7) (T := TX7) (N := 2) hx hb hts hwX7 hown hK.1 hP 0 rfl rfl 0 (by decide) l18 (fun _ h9 => h9) rfl dX7_drop_35 ?_
    refine lv_iload_n hx hb dX7_drop_38 rfl (lv_at hl 0 rfl) ?_
    refine lv_aload_n hx hb dX7_drop_39 rfl (lv_at hl 1 rfl) ?_
    refine va_get (D := D.1) (ci := 5) (v := .int (v0_size - (1 : Int32))) (C := RX7) (T := TX7) (N := 2) hx hb hts hwX7 hown hK.1 hP 0 rfl rfl 1 (by decide) l24 (fun _ h9 => h9) rfl dX7_drop_40 ?_
    refine lv_iload_n hx hb dX7_drop_43 rfl (lv_at hl 0 rfl) ?_
    refine lv_isub hx hb dX7_drop_44 ?_
    obtain ⟨h_5, hf⟩ := gd hf
    obtain ⟨h_6, h_7, h_8, h_9, h_10⟩ := zor5 h_5
    refine va_copyl hx hb (hml.trans hl.1.symm) hown l42 hnatA hstA hinS hK.1 hP hD hS 1 1 2 2 (ty := .long) rfl rfl rfl rfl rfl h_6 h_7 h_8 (Nat.not_lt.mp h_9) (Nat.not_lt.mp h_10) (fun _ _ => rfl) (Nat.le_of_ble_eq_true rfl) (Nat.le_of_ble_eq_true rfl) dX7_drop_45 (fun H locs hP hD hS => ?_)
    have hP : va_P D.1 vwCl [(a0, .inr (5, [.ref a0_rows, .int (v0_size - (1 : Int32))])), (a0_rows, .inl (D.2 2, n0_rows, .inr (.inl (va_cpy g0_rows g0_rows ((r1 + (1 : Int32))).toNatClampNeg (r1).toNatClampNeg (((v0_size - (1 : Int32)) - r1)).toNatClampNeg))))] H := hP
    have hD : va_D A [(a0, .inr (5, [.ref a0_rows, .int (v0_size - (1 : Int32))])), (a0_rows, .inl (D.2 2, n0_rows, .inr (.inl (va_cpy g0_rows g0_rows ((r1 + (1 : Int32))).toNatClampNeg (r1).toNatClampNeg (((v0_size - (1 : Int32)) - r1)).toNatClampNeg))))] := hD
    refine lv_iconst (v := 1) hx hb dX7_drop_48 (by decide) ?_
    have he := Option.some.inj hf
    rw [hQ]
    exact W.zret (v := (1 : Int32)) hx hb hr (znb (Or.inr rfl)) (fun t ht hW => by rw [← he]; exact ⟨⟨(1 : Int32), (), rfl, ⟨rfl, Or.inr rfl⟩, by rw [ht]; exact hP, hD⟩, hS.F ht⟩) hS.2.2 dX7_drop_49
  · replace hf := ip c_4 hf
    refine lv_iconst (v := 0) hx hb dX7_drop_15 (by decide) ?_
    have he := Option.some.inj hf
    rw [hQ]
    exact W.zret (v := (0 : Int32)) hx hb hr (znb (Or.inl rfl)) (fun t ht hW => by rw [← he]; exact ⟨⟨(0 : Int32), (), rfl, ⟨rfl, Or.inl rfl⟩, by rw [ht]; exact hP, hD⟩, hS.F ht⟩) hS.2.2 dX7_drop_16
def fX8_signAt (p0 : Int64) (p2 : Int32) : Option (Int32) :=
  Option.bind (fX8_codeAt p0 p2) fun r1 =>
  if r1 = (0 : Int32) then
    some ((-1 : Int32))
  else
    if r1 = (1 : Int32) then
      some ((36 : Int32))
    else
      some (((r1 - (2 : Int32)) + (97 : Int32)))
set_option maxHeartbeats 4000000 in
set_option maxRecDepth 100000 in
theorem mX8_signAt (l : Launch) (D : zG)  (sz : Nat)   (p0 : Int64) (p2 : Int32) (res : Int32) (hf : fX8_signAt p0 p2 = some res) : Met l yX8_signAt wsX8_signAt ({ frames := 1, cells := 0, slots := 0, locals := 22 } : Room) (va_Pc [.long p0, .int p2] (zW D sz [])) (va_Qi (fun r (_ : Unit) => r = res) (fun _ => zB D (va_A [] sz) []) (va_A [] sz)) 0 0 (va_A [] sz) := by
  refine Met.ofW (cc := cX8_signAt) (maxL := 4) (ret := (some .int)) (by decide) rfl ?_
  intro p e s m args below meth c s₁ B hml hv
  obtain ⟨rfl, hsz, hP, hK, hD0⟩ := hv
  have hx := B.exec
  have hb := B.bytes
  have hr := B.returns
  have hts := atoms_spec (ws := wsX8_signAt) B.pre
  have hown : s.vm.findClass RX8 = some m.cls := findClass_of_methodNamed B.named
  have hlocks := B.notSynchronized
  subst hsz
  have hD := hD0.self (sz := s.heap.size)
  generalize hAe : va_A [] s.heap.size = A at hD ⊢
  have hA : ∀ q : Nat, s.heap.size ≤ q → A q := fun q h => by rw [← hAe]; exact Or.inr h
  have hl := lv_entry ([.long p0, .int p2]) (n := 4) (Nat.le_of_ble_eq_true rfl)
  rw [lg_entry_eq]
  generalize (lg_sl ([.long p0, .int p2]) ++ List.replicate (4 - (lg_sl ([.long p0, .int p2])).length) Slot.unset).toArray = ls at hl ⊢
  have hl : lv_has ls 4 [(0, .long p0), (2, .int p2)] := hl
  refine zStart (A := A) hP (fun Q0 H locs hQ hP hS => ?_)
  unfold fX8_signAt at hf
  refine lv_lload_n hx hb dX8_signAt_0 rfl (lv_at hl 0 rfl) ?_
  refine lv_iload_n hx hb dX8_signAt_1 rfl (lv_at hl 1 rfl) ?_
  obtain ⟨r1, hr1, hf⟩ := bd hf
  refine zSi (As := [.long p0, .int p2]) (rest := []) (wn := []) ⟨hx, hb, hml, hown, hts⟩ (mX8_codeAt l D H.size p0 p2 r1 hr1) (va_cwS 2 hts gX8_signAt_X8_codeAt rfl rfl rfl (by decide +kernel) ⟨Nat.le_of_ble_eq_true rfl, Nat.le_of_ble_eq_true rfl⟩) hK hP hD hS hA [] [] [] rfl (by decide) rfl (by decide) (by decide) rfl (by decide) rfl hl.1 rfl (Nat.le_of_ble_eq_true rfl) dX8_signAt_2 ⟨Nat.zero_le _, Nat.zero_le _⟩ (fun H locs hP hD hS => ?_)
  refine lv_istore_n (lv' := [(3, .int r1), (0, .long p0), (2, .int p2)]) hx hb dX8_signAt_5 rfl hl (by decide) rfl (fun ls hl => ?_)
  refine lv_iload_n hx hb dX8_signAt_6 rfl (lv_at hl 0 rfl) ?_
  refine lv_if_ne (tgt := 12) hx hb dX8_signAt_7 (by decide) (fun c_2 => ?_) (fun c_2 => ?_)
  · replace hf := im c_2 hf
    refine lv_iload_n hx hb dX8_signAt_12 rfl (lv_at hl 0 rfl) ?_
    refine lv_iconst (v := 1) hx hb dX8_signAt_13 (by decide) ?_
    refine lv_icmp_ne (tgt := 22) hx hb dX8_signAt_14 (by decide) (fun c_3 => ?_) (fun c_3 => ?_)
    · replace hf := im c_3 hf
      refine lv_iload_n hx hb dX8_signAt_22 rfl (lv_at hl 0 rfl) ?_
      refine lv_iconst (v := 2) hx hb dX8_signAt_23 (by decide) ?_
      refine lv_isub hx hb dX8_signAt_24 ?_
      refine lv_bipush (v := 97) hx hb dX8_signAt_25 (by decide) ?_
      refine lv_iadd hx hb dX8_signAt_27 ?_
      have he := Option.some.inj hf
      rw [hQ]
      exact W.iret (v := ((r1 - (2 : Int32)) + (97 : Int32))) hx hb hr (fun t ht hW => by rw [← he]; exact ⟨⟨((r1 - (2 : Int32)) + (97 : Int32)), (), rfl, rfl, by rw [ht]; exact hP, hD⟩, hS.F ht⟩) hS.2.2 dX8_signAt_28
    · replace hf := ip c_3 hf
      refine lv_bipush (v := 36) hx hb dX8_signAt_17 (by decide) ?_
      refine lv_goto (tgt := 28) hx hb dX8_signAt_19 (by decide) ?_
      have he := Option.some.inj hf
      rw [hQ]
      exact W.iret (v := (36 : Int32)) hx hb hr (fun t ht hW => by rw [← he]; exact ⟨⟨(36 : Int32), (), rfl, rfl, by rw [ht]; exact hP, hD⟩, hS.F ht⟩) hS.2.2 dX8_signAt_28
  · replace hf := ip c_2 hf
    refine lv_iconst (v := -1) hx hb dX8_signAt_10 (by decide) ?_
    have he := Option.some.inj hf
    rw [hQ]
    exact W.iret (v := (-1 : Int32)) hx hb hr (fun t ht hW => by rw [← he]; exact ⟨⟨(-1 : Int32), (), rfl, rfl, by rw [ht]; exact hP, hD⟩, hS.F ht⟩) hS.2.2 dX8_signAt_11
def fX8_areNear_6 (N : Nat) (p0 : Int64) (p2 : Int64) : Nat → Int32 → Int32 → Option (Int32)
  | 0, _, _ => none
  | K + 1, x4, x5 =>
    if (8 : Int32) ≤ x5 then
      if x4 = (1 : Int32) then
        Option.bind (fX8_length N p0) fun r3 =>
        Option.bind (fX8_length N p2) fun r4 =>
        if r3 = r4 then
          some ((1 : Int32))
        else
          some ((0 : Int32))
      else
        some ((0 : Int32))
    else
      Option.bind (fX8_codeAt p0 x5) fun r6 =>
      Option.bind (fX8_codeAt p2 x5) fun r7 =>
      if r6 = r7 then
        (fX8_areNear_6 N p0 p2 K) x4 (x5 + (1 : Int32))
      else
        (fX8_areNear_6 N p0 p2 K) (x4 + (1 : Int32)) (x5 + (1 : Int32))
def fX8_areNear (N : Nat) (p0 : Int64) (p2 : Int64) : Option (Int32) :=
  fX8_areNear_6 N p0 p2 N (0 : Int32) (0 : Int32)
set_option maxHeartbeats 4000000 in
set_option maxRecDepth 100000 in
theorem mX8_areNear (l : Launch) (D : zG)  (sz : Nat)   (p0 : Int64) (p2 : Int64) (N : Nat) (res : Int32) (hf : fX8_areNear N p0 p2 = some res) : Met l yX8_areNear wsX8_areNear ({ frames := 2, cells := 0, slots := 0, locals := 44 } : Room) (va_Pc [.long p0, .long p2] (zW D sz [])) (va_Qi (fun r (_ : Unit) => r = res ∧ (r = 0 ∨ r = 1)) (fun _ => zB D (va_A [] sz) []) (va_A [] sz)) 0 0 (va_A [] sz) := by
  refine Met.ofW (cc := cX8_areNear) (maxL := 6) (ret := (some .boolean)) (by decide) rfl ?_
  intro p e s m args below meth c s₁ B hml hv
  obtain ⟨rfl, hsz, hP, hK, hD0⟩ := hv
  have hx := B.exec
  have hb := B.bytes
  have hr := B.returns
  have hts := atoms_spec (ws := wsX8_areNear) B.pre
  have hown : s.vm.findClass RX8 = some m.cls := findClass_of_methodNamed B.named
  have hlocks := B.notSynchronized
  subst hsz
  have hD := hD0.self (sz := s.heap.size)
  generalize hAe : va_A [] s.heap.size = A at hD ⊢
  have hA : ∀ q : Nat, s.heap.size ≤ q → A q := fun q h => by rw [← hAe]; exact Or.inr h
  have hl := lv_entry ([.long p0, .long p2]) (n := 6) (Nat.le_of_ble_eq_true rfl)
  rw [lg_entry_eq]
  generalize (lg_sl ([.long p0, .long p2]) ++ List.replicate (6 - (lg_sl ([.long p0, .long p2])).length) Slot.unset).toArray = ls at hl ⊢
  have hl : lv_has ls 6 [(0, .long p0), (2, .long p2)] := hl
  refine zStart (A := A) hP (fun Q0 H locs hQ hP hS => ?_)
  have k6 : ∀ K : Nat, ∀ (x4 : Int32) (x5 : Int32) (H : Heap) (locs : List Loc) (ls : Array Slot), fX8_areNear_6 N p0 p2 K x4 x5 = some res → va_P D.1 vwCl [] H → va_D A [] → va_S A s.heap H locs → lv_has ls 6 [(0, .long p0), (2, .long p2), (4, .int x4), (5, .int x5)] → W p l e (headSpec wsX8_areNear ({ frames := 2, cells := 0, slots := 0, locals := 44 } : Room)).room s m ([.long p0, .long p2] : List Value).toArray below meth c H locs 0 0 Q0 (F0 m 6 ls []) := by
    intro K
    induction K with
    | zero =>
      intro x4 x5 H locs ls hf
      rw [fX8_areNear_6] at hf
      cases hf
    | succ K ih =>
      intro x4 x5 H locs ls hf hP hD hS hl
      rw [fX8_areNear_6] at hf
      refine lv_iload hx hb dX8_areNear_6 (lv_at hl 3 rfl) ?_
      refine lv_bipush (v := 8) hx hb dX8_areNear_8 (by decide) ?_
      refine lv_icmp_ge (tgt := 37) hx hb dX8_areNear_10 (by decide) (fun c_1 => ?_) (fun c_1 => ?_)
      · replace hf := ip c_1 hf
        refine lv_iload hx hb dX8_areNear_37 (lv_at hl 2 rfl) ?_
        refine lv_iconst (v := 1) hx hb dX8_areNear_39 (by decide) ?_
        refine lv_icmp_ne (tgt := 58) hx hb dX8_areNear_40 (by decide) (fun c_2 => ?_) (fun c_2 => ?_)
        · replace hf := im c_2 hf
          refine lv_iconst (v := 0) hx hb dX8_areNear_58 (by decide) ?_
          have he := Option.some.inj hf
          rw [hQ]
          exact W.zret (v := (0 : Int32)) hx hb hr (znb (Or.inl rfl)) (fun t ht hW => by rw [← he]; exact ⟨⟨(0 : Int32), (), rfl, ⟨rfl, Or.inl rfl⟩, by rw [ht]; exact hP, hD⟩, hS.F ht⟩) hS.2.2 dX8_areNear_59
        · replace hf := ip c_2 hf
          refine lv_lload_n hx hb dX8_areNear_43 rfl (lv_at hl 0 rfl) ?_
          obtain ⟨r3, hr3, hf⟩ := bd hf
          refine zSi (As := [.long p0]) (rest := []) (wn := []) ⟨hx, hb, hml, hown, hts⟩ (mX8_length l D H.size p0 N r3 hr3) (va_cwS 1 hts gX8_areNear_X8_length rfl rfl rfl (by decide +kernel) ⟨Nat.le_of_ble_eq_true rfl, Nat.le_of_ble_eq_true rfl⟩) hK hP hD hS hA [] [] [] rfl (by decide) rfl (by decide) (by decide) rfl (by decide) rfl hl.1 rfl (Nat.le_of_ble_eq_true rfl) dX8_areNear_44 ⟨Nat.zero_le _, Nat.zero_le _⟩ (fun H locs hP hD hS => ?_)
          refine lv_lload_n hx hb dX8_areNear_47 rfl (lv_at hl 1 rfl) ?_
          obtain ⟨r4, hr4, hf⟩ := bd hf
          refine zSi (As := [.long p2]) (rest := [.int r3]) (wn := []) ⟨hx, hb, hml, hown, hts⟩ (mX8_length l D H.size p2 N r4 hr4) (va_cwS 1 hts gX8_areNear_X8_length rfl rfl rfl (by decide +kernel) ⟨Nat.le_of_ble_eq_true rfl, Nat.le_of_ble_eq_true rfl⟩) hK hP hD hS hA [] [] [] rfl (by decide) rfl (by decide) (by decide) rfl (by decide) rfl hl.1 rfl (Nat.le_of_ble_eq_true rfl) dX8_areNear_48 ⟨Nat.zero_le _, Nat.zero_le _⟩ (fun H locs hP hD hS => ?_)
          refine lv_icmp_ne (tgt := 58) hx hb dX8_areNear_51 (by decide) (fun c_5 => ?_) (fun c_5 => ?_)
          · replace hf := im c_5 hf
            refine lv_iconst (v := 0) hx hb dX8_areNear_58 (by decide) ?_
            have he := Option.some.inj hf
            rw [hQ]
            exact W.zret (v := (0 : Int32)) hx hb hr (znb (Or.inl rfl)) (fun t ht hW => by rw [← he]; exact ⟨⟨(0 : Int32), (), rfl, ⟨rfl, Or.inl rfl⟩, by rw [ht]; exact hP, hD⟩, hS.F ht⟩) hS.2.2 dX8_areNear_59
          · replace hf := ip c_5 hf
            refine lv_iconst (v := 1) hx hb dX8_areNear_54 (by decide) ?_
            refine lv_goto (tgt := 59) hx hb dX8_areNear_55 (by decide) ?_
            have he := Option.some.inj hf
            rw [hQ]
            exact W.zret (v := (1 : Int32)) hx hb hr (znb (Or.inr rfl)) (fun t ht hW => by rw [← he]; exact ⟨⟨(1 : Int32), (), rfl, ⟨rfl, Or.inr rfl⟩, by rw [ht]; exact hP, hD⟩, hS.F ht⟩) hS.2.2 dX8_areNear_59
      · replace hf := im c_1 hf
        refine lv_lload_n hx hb dX8_areNear_13 rfl (lv_at hl 0 rfl) ?_
        refine lv_iload hx hb dX8_areNear_14 (lv_at hl 3 rfl) ?_
        obtain ⟨r6, hr6, hf⟩ := bd hf
        refine zSi (As := [.long p0, .int x5]) (rest := []) (wn := []) ⟨hx, hb, hml, hown, hts⟩ (mX8_codeAt l D H.size p0 x5 r6 hr6) (va_cwS 2 hts gX8_areNear_X8_codeAt rfl rfl rfl (by decide +kernel) ⟨Nat.le_of_ble_eq_true rfl, Nat.le_of_ble_eq_true rfl⟩) hK hP hD hS hA [] [] [] rfl (by decide) rfl (by decide) (by decide) rfl (by decide) rfl hl.1 rfl (Nat.le_of_ble_eq_true rfl) dX8_areNear_16 ⟨Nat.zero_le _, Nat.zero_le _⟩ (fun H locs hP hD hS => ?_)
        refine lv_lload_n hx hb dX8_areNear_19 rfl (lv_at hl 1 rfl) ?_
        refine lv_iload hx hb dX8_areNear_20 (lv_at hl 3 rfl) ?_
        obtain ⟨r7, hr7, hf⟩ := bd hf
        refine zSi (As := [.long p2, .int x5]) (rest := [.int r6]) (wn := []) ⟨hx, hb, hml, hown, hts⟩ (mX8_codeAt l D H.size p2 x5 r7 hr7) (va_cwS 2 hts gX8_areNear_X8_codeAt rfl rfl rfl (by decide +kernel) ⟨Nat.le_of_ble_eq_true rfl, Nat.le_of_ble_eq_true rfl⟩) hK hP hD hS hA [] [] [] rfl (by decide) rfl (by decide) (by decide) rfl (by decide) rfl hl.1 rfl (Nat.le_of_ble_eq_true rfl) dX8_areNear_22 ⟨Nat.zero_le _, Nat.zero_le _⟩ (fun H locs hP hD hS => ?_)
        refine lv_icmp_eq (tgt := 31) hx hb dX8_areNear_25 (by decide) (fun c_8 => ?_) (fun c_8 => ?_)
        · replace hf := ip c_8 hf
          refine lv_iinc (v := (x5 + (1 : Int32))) (lv' := [(5, .int (x5 + (1 : Int32))), (0, .long p0), (2, .long p2), (4, .int x4)]) hx hb dX8_areNear_31 hl (k := 3) rfl rfl (by decide) rfl (fun ls hl => ?_)
          refine lv_goto (tgt := 6) hx hb dX8_areNear_34 (by decide) ?_
          exact ih x4 (x5 + (1 : Int32)) H locs ls hf hP hD hS (lv_sub hl [1, 2, 3, 0] rfl)
        · replace hf := im c_8 hf
          refine lv_iinc (v := (x4 + (1 : Int32))) (lv' := [(4, .int (x4 + (1 : Int32))), (0, .long p0), (2, .long p2), (5, .int x5)]) hx hb dX8_areNear_28 hl (k := 2) rfl rfl (by decide) rfl (fun ls hl => ?_)
          refine lv_iinc (v := (x5 + (1 : Int32))) (lv' := [(5, .int (x5 + (1 : Int32))), (4, .int (x4 + (1 : Int32))), (0, .long p0), (2, .long p2)]) hx hb dX8_areNear_31 hl (k := 3) rfl rfl (by decide) rfl (fun ls hl => ?_)
          refine lv_goto (tgt := 6) hx hb dX8_areNear_34 (by decide) ?_
          exact ih (x4 + (1 : Int32)) (x5 + (1 : Int32)) H locs ls hf hP hD hS (lv_sub hl [2, 3, 1, 0] rfl)
  unfold fX8_areNear at hf
  refine lv_iconst (v := 0) hx hb dX8_areNear_0 (by decide) ?_
  refine lv_istore (lv' := [(4, .int (0 : Int32)), (0, .long p0), (2, .long p2)]) hx hb dX8_areNear_1 hl (by decide) rfl (fun ls hl => ?_)
  refine lv_iconst (v := 0) hx hb dX8_areNear_3 (by decide) ?_
  refine lv_istore (lv' := [(5, .int (0 : Int32)), (4, .int (0 : Int32)), (0, .long p0), (2, .long p2)]) hx hb dX8_areNear_4 hl (by decide) rfl (fun ls hl => ?_)
  exact k6 N (0 : Int32) (0 : Int32) H locs ls hf hP hD hS (lv_sub hl [2, 3, 1, 0] rfl)
def fX10_init  : Option (Int32 × (Nat → Int32)) :=
  some ((0 : Int32), (fun _ => (0 : Int32)))
set_option maxHeartbeats 4000000 in
set_option maxRecDepth 100000 in
theorem mX10_init (l : Launch) (D : zG) (a0 : Nat) (sz : Nat)    (res : Int32 × (Nat → Int32)) (hf : fX10_init = some res) : Met l yX10_init wsX10_init ({ frames := 1, cells := 1, slots := 400, locals := 12 } : Room) (va_Pc [.ref a0] (zW D sz [(a0, .inr (7, [.null, .int (0 : Int32)]))])) (va_Qv (fun (_ : Nat) => True) (fun u => zB D (va_A [(a0, .inr (7, [.null, .int (0 : Int32)]))] sz) [(a0, .inr (7, [.ref u, .int res.1])), (u, .inl (D.2 0, 400, .inl res.2))]) (va_A [(a0, .inr (7, [.null, .int (0 : Int32)]))] sz)) 1 400 (va_A [(a0, .inr (7, [.null, .int (0 : Int32)]))] sz) := by
  refine Met.ofW (cc := cX10_init) (maxL := 1) (ret := none) (by decide) rfl ?_
  intro p e s m args below meth c s₁ B hml hv
  obtain ⟨rfl, hsz, hP, hK, hD0⟩ := hv
  have hx := B.exec
  have hb := B.bytes
  have hr := B.returns
  have hts := atoms_spec (ws := wsX10_init) B.pre
  have hown : s.vm.findClass RX10 = some m.cls := findClass_of_methodNamed B.named
  have hlocks := B.notSynchronized
  have hin : meth.name = "<init>" := (name_of_methodNamed B.named B.method).1
  subst hsz
  have hD := hD0.self (sz := s.heap.size)
  generalize hAe : va_A [(a0, .inr (7, [.null, .int (0 : Int32)]))] s.heap.size = A at hD ⊢
  have hA : ∀ q : Nat, s.heap.size ≤ q → A q := fun q h => by rw [← hAe]; exact Or.inr h
  have l3 := zat hts 1 (w := .methodLink RX10 3 objectInit) rfl
  have hobji := zat hts 2 (w := .instanceMethod objectInit) rfl
  have hobjc := zat hts 3 (w := .code objectInit ⟨#[0xb1]⟩ 1 none) rfl
  have harrB := zat hts 4 (w := .arrayClass .byte) rfl
  have l9 := zat hts 5 (w := .fieldLink RX10 9 "TurnedWords$Tape" "bytes" "[B") rfl
  have hwX10 : ∀ w ∈ u_ws RX10 TX10 2, w ∈ wsX10_init := fun w h => List.mem_cons_of_mem _ (List.mem_append_right _ h)
  have hl := lv_entry ([.ref a0]) (n := 1) (Nat.le_of_ble_eq_true rfl)
  rw [lg_entry_eq]
  generalize (lg_sl ([.ref a0]) ++ List.replicate (1 - (lg_sl ([.ref a0])).length) Slot.unset).toArray = ls at hl ⊢
  have hl : lv_has ls 1 [(0, .ref a0)] := hl
  refine zStart (A := A) hP (fun Q0 H locs hQ hP hS => ?_)
  unfold fX10_init at hf
  refine lv_aload_n hx hb dX10_init_0 rfl (lv_at hl 0 rfl) ?_
  refine W.objInit hx hb hown l3 hobji hobjc rfl (by rw [hml]; exact hl.1) rfl dX10_init_1 (Nat.le_of_ble_eq_true rfl) (Nat.le_of_ble_eq_true rfl) ?_
  refine W.eq (g2 := F0 m 4 ls []) rfl ?_
  refine lv_aload_n hx hb dX10_init_4 rfl (lv_at hl 0 rfl) ?_
  refine lv_sipush (v := 400) hx hb dX10_init_5 (by decide) ?_
  refine va_newa (atype := .byte) (n := (400 : Int32)) (a0 := (400, .inl (fun _ => (0 : Int32)))) hx hb harrB rfl hK.1 hP hD hS hA (fun _ => rfl) (by decide) (by decide) (Nat.le_of_ble_eq_true rfl) (Nat.le_of_ble_eq_true rfl) (Nat.le_of_ble_eq_true rfl) dX10_init_8 (fun q1 cA2 H hK9 hP hD hS => ?_)
  obtain rfl := zsame hK9 0 rfl (fun _ h => h)
  have hP : va_P D.1 vwCl [(a0, .inr (7, [.null, .int (0 : Int32)])), (q1, .inl (D.2 0, 400, .inl (fun _ => (0 : Int32))))] H := hP
  have hD : va_D A [(a0, .inr (7, [.null, .int (0 : Int32)])), (q1, .inl (D.2 0, 400, .inl (fun _ => (0 : Int32))))] := hD
  refine W.widen (k := 1) (n := 400) (Nat.le_of_ble_eq_true rfl) (Nat.le_of_ble_eq_true rfl) ?_
  refine va_putF (D := D.1) (ci := 7) (v := .ref q1) (ty := (.array .byte)) (C := RX10) (T := TX10) (N := 2) hx hb hts hwX10 tyX10 tyX10_ok nmX10 hown hK.1 hP hD hS 0 rfl rfl 0 (by decide) l9 (fun _ h9 => h9) rfl hin rfl (by decide +kernel) rfl rfl (Nat.le_of_ble_eq_true rfl) dX10_init_10 (fun H locs hP hD hS => ?_)
  have hP : va_P D.1 vwCl [(a0, .inr (7, [.ref q1, .int (0 : Int32)])), (q1, .inl (D.2 0, 400, .inl (fun _ => (0 : Int32))))] H := hP
  have hD : va_D A [(a0, .inr (7, [.ref q1, .int (0 : Int32)])), (q1, .inl (D.2 0, 400, .inl (fun _ => (0 : Int32))))] := hD
  have he := Option.some.inj hf
  rw [hQ]
  exact W.vret hx hb hr (fun t ht hW => by rw [← he]; exact ⟨⟨(q1), rfl, trivial, by rw [ht]; exact hP, hD⟩, hS.F ht⟩) hS.2.2 dX10_init_13
def fX9_init  : Option (Int32 × Int32 × (Nat → Int32) × Int32 × (Nat → Int64) × Int32 × (Nat → Int64) × Int32 × (Nat → Int32) × Int32 × Int32) :=
  Option.bind (fX10_init) fun r2 =>
  Option.bind (fX7_init_40) fun r5 =>
  Option.bind (fX7_init_40) fun r8 =>
  Option.bind (fX5_init) fun r11 =>
  Option.bind (fX2_init) fun r14 =>
  some ((0 : Int32), r2.1, r2.2, r5.1, r5.2, r8.1, r8.2, r11.1, r11.2, r14.1, r14.2)
set_option maxHeartbeats 4000000 in
set_option maxRecDepth 100000 in
theorem mX9_init (l : Launch) (D : zG) (a0 : Nat) (sz : Nat)    (res : Int32 × Int32 × (Nat → Int32) × Int32 × (Nat → Int64) × Int32 × (Nat → Int64) × Int32 × (Nat → Int32) × Int32 × Int32) (hf : fX9_init = some res) : Met l yX9_init wsX9_init ({ frames := 2, cells := 9, slots := 502, locals := 36 } : Room) (va_Pc [.ref a0] (zW D sz [(a0, .inr (6, [.null, .null, .null, .null, .null, .int (0 : Int32)]))])) (va_Qv (fun (_ : Nat × Nat × Nat × Nat × Nat × Nat × Nat × Nat × Nat) => True) (fun u => zB D (va_A [(a0, .inr (6, [.null, .null, .null, .null, .null, .int (0 : Int32)]))] sz) [(a0, .inr (6, [.ref u.1, .ref u.2.2.1, .ref u.2.2.2.2.1, .ref u.2.2.2.2.2.2.1, .ref u.2.2.2.2.2.2.2.2, .int res.1])), (u.1, .inr (7, [.ref u.2.1, .int res.2.1])), (u.2.1, .inl (D.2 0, 400, .inl res.2.2.1)), (u.2.2.1, .inr (5, [.ref u.2.2.2.1, .int res.2.2.2.1])), (u.2.2.2.1, .inl (D.2 2, 40, .inr (.inl res.2.2.2.2.1))), (u.2.2.2.2.1, .inr (5, [.ref u.2.2.2.2.2.1, .int res.2.2.2.2.2.1])), (u.2.2.2.2.2.1, .inl (D.2 2, 40, .inr (.inl res.2.2.2.2.2.2.1))), (u.2.2.2.2.2.2.1, .inr (4, [.ref u.2.2.2.2.2.2.2.1, .int res.2.2.2.2.2.2.2.1])), (u.2.2.2.2.2.2.2.1, .inl (D.2 1, 12, .inl res.2.2.2.2.2.2.2.2.1)), (u.2.2.2.2.2.2.2.2, .inr (1, [.int res.2.2.2.2.2.2.2.2.2.1, .int res.2.2.2.2.2.2.2.2.2.2]))]) (va_A [(a0, .inr (6, [.null, .null, .null, .null, .null, .int (0 : Int32)]))] sz)) 9 502 (va_A [(a0, .inr (6, [.null, .null, .null, .null, .null, .int (0 : Int32)]))] sz) := by
  refine Met.ofW (cc := cX9_init) (maxL := 1) (ret := none) (by decide) rfl ?_
  intro p e s m args below meth c s₁ B hml hv
  obtain ⟨rfl, hsz, hP, hK, hD0⟩ := hv
  have hx := B.exec
  have hb := B.bytes
  have hr := B.returns
  have hts := atoms_spec (ws := wsX9_init) B.pre
  have hown : s.vm.findClass RX9 = some m.cls := findClass_of_methodNamed B.named
  have hlocks := B.notSynchronized
  have hin : meth.name = "<init>" := (name_of_methodNamed B.named B.method).1
  subst hsz
  have hD := hD0.self (sz := s.heap.size)
  generalize hAe : va_A [(a0, .inr (6, [.null, .null, .null, .null, .null, .int (0 : Int32)]))] s.heap.size = A at hD ⊢
  have hA : ∀ q : Nat, s.heap.size ≤ q → A q := fun q h => by rw [← hAe]; exact Or.inr h
  have l3 := zat hts 1 (w := .methodLink RX9 3 objectInit) rfl
  have hobji := zat hts 2 (w := .instanceMethod objectInit) rfl
  have hobjc := zat hts 3 (w := .code objectInit ⟨#[0xb1]⟩ 1 none) rfl
  have l9 := zat hts 4 (w := .classLink RX9 9 RX10) rfl
  have hinstX10 := zat hts 5 (w := .instantiable RX10 2) rfl
  have hiniX10 := zat hts 6 (w := .initialized RX10) rfl
  have l11 := zat hts 21 (w := .methodLink RX9 11 yX10_init) rfl
  have hinm_X10_init := zat hts 22 (w := .instanceMethod yX10_init) rfl
  have l12 := zat hts 7 (w := .fieldLink RX9 12 "TurnedWords$State" "tape" "LTurnedWords$Tape;") rfl
  have l18 := zat hts 8 (w := .classLink RX9 18 RX7) rfl
  have hinstX7 := zat hts 9 (w := .instantiable RX7 2) rfl
  have hiniX7 := zat hts 10 (w := .initialized RX7) rfl
  have l20 := zat hts 27 (w := .methodLink RX9 20 yX7_init) rfl
  have hinm_X7_init := zat hts 28 (w := .instanceMethod yX7_init) rfl
  have l23 := zat hts 11 (w := .fieldLink RX9 23 "TurnedWords$State" "dictionary" "LTurnedWords$Rising;") rfl
  have l27 := zat hts 12 (w := .fieldLink RX9 27 "TurnedWords$State" "coming" "LTurnedWords$Rising;") rfl
  have l30 := zat hts 13 (w := .classLink RX9 30 RX5) rfl
  have hinstX5 := zat hts 14 (w := .instantiable RX5 2) rfl
  have hiniX5 := zat hts 15 (w := .initialized RX5) rfl
  have l32 := zat hts 40 (w := .methodLink RX9 32 yX5_init) rfl
  have hinm_X5_init := zat hts 41 (w := .instanceMethod yX5_init) rfl
  have l33 := zat hts 16 (w := .fieldLink RX9 33 "TurnedWords$State" "pattern" "LTurnedWords$Pattern;") rfl
  have l37 := zat hts 17 (w := .classLink RX9 37 RX2) rfl
  have hinstX2 := zat hts 18 (w := .instantiable RX2 2) rfl
  have hiniX2 := zat hts 19 (w := .initialized RX2) rfl
  have l39 := zat hts 47 (w := .methodLink RX9 39 yX2_init) rfl
  have hinm_X2_init := zat hts 48 (w := .instanceMethod yX2_init) rfl
  have l40 := zat hts 20 (w := .fieldLink RX9 40 "TurnedWords$State" "fault" "LTurnedWords$Fault;") rfl
  have hwX10 : ∀ w ∈ u_ws RX10 TX10 2, w ∈ wsX9_init := fun w h => List.mem_cons_of_mem _ (List.mem_append_left _ (List.mem_append_left _ (List.mem_append_left _ (List.mem_append_left _ (List.mem_append_right _ h)))))
  have hwX9 : ∀ w ∈ u_ws RX9 TX9 6, w ∈ wsX9_init := fun w h => List.mem_cons_of_mem _ (List.mem_append_left _ (List.mem_append_left _ (List.mem_append_left _ (List.mem_append_right _ h))))
  have hwX7 : ∀ w ∈ u_ws RX7 TX7 2, w ∈ wsX9_init := fun w h => List.mem_cons_of_mem _ (List.mem_append_left _ (List.mem_append_left _ (List.mem_append_right _ h)))
  have hwX5 : ∀ w ∈ u_ws RX5 TX5 2, w ∈ wsX9_init := fun w h => List.mem_cons_of_mem _ (List.mem_append_left _ (List.mem_append_right _ h))
  have hwX2 : ∀ w ∈ u_ws RX2 TX2 2, w ∈ wsX9_init := fun w h => List.mem_cons_of_mem _ (List.mem_append_right _ h)
  have hl := lv_entry ([.ref a0]) (n := 1) (Nat.le_of_ble_eq_true rfl)
  rw [lg_entry_eq]
  generalize (lg_sl ([.ref a0]) ++ List.replicate (1 - (lg_sl ([.ref a0])).length) Slot.unset).toArray = ls at hl ⊢
  have hl : lv_has ls 1 [(0, .ref a0)] := hl
  refine zStart (A := A) hP (fun Q0 H locs hQ hP hS => ?_)
  unfold fX9_init at hf
  refine lv_aload_n hx hb dX9_init_0 rfl (lv_at hl 0 rfl) ?_
  refine W.objInit hx hb hown l3 hobji hobjc rfl (by rw [hml]; exact hl.1) rfl dX9_init_1 (Nat.le_of_ble_eq_true rfl) (Nat.le_of_ble_eq_true rfl) ?_
  refine W.eq (g2 := F0 m 4 ls []) rfl ?_
  refine lv_aload_n hx hb dX9_init_4 rfl (lv_at hl 0 rfl) ?_
  refine va_new (ci := 7) (fs := [.null, .int (0 : Int32)]) (C := RX10) (T := TX10) (N := 2) hx hb hts hwX10 tyX10 tyX10_ok hown l9 hinstX10 hiniX10 hK.1 hP hD hS hA rfl (fun j hj => by rcases (show j = 0 ∨ j = 1 by omega) with rfl | rfl <;> rfl) (Nat.le_of_ble_eq_true rfl) (Nat.le_of_ble_eq_true rfl) dX9_init_5 (fun q1 H hP hD hS => ?_)
  have hP : va_P D.1 vwCl [(a0, .inr (6, [.null, .null, .null, .null, .null, .int (0 : Int32)])), (q1, .inr (7, [.null, .int (0 : Int32)]))] H := hP
  have hD : va_D A [(a0, .inr (6, [.null, .null, .null, .null, .null, .int (0 : Int32)])), (q1, .inr (7, [.null, .int (0 : Int32)]))] := hD
  refine W.widen (k := 1) (n := 2) (Nat.le_of_ble_eq_true rfl) (Nat.le_of_ble_eq_true rfl) ?_
  refine lv_dup hx hb dX9_init_8 rfl ?_
  obtain ⟨r2, hr2, hf⟩ := bd hf
  refine zI (As := []) (rest := [.ref q1, .ref a0]) ⟨hx, hb, hml, hown, hts⟩ (mX10_init l D q1 H.size r2 hr2) (cwI 0 hts gX9_init_X10_init rfl rfl rfl hiniX10 l11 hinm_X10_init rfl (by decide +kernel) ⟨Nat.le_of_ble_eq_true rfl, Nat.le_of_ble_eq_true rfl⟩) hK hP hD hS hA [1] [0] rfl (by decide) rfl (by decide) (by decide) rfl hl.1 rfl (Nat.le_of_ble_eq_true rfl) dX9_init_9 ⟨Nat.le_of_ble_eq_true rfl, Nat.le_of_ble_eq_true rfl⟩ (fun u3 H locs hP hD hS => ?_)
  have hP : va_P D.1 vwCl [(a0, .inr (6, [.null, .null, .null, .null, .null, .int (0 : Int32)])), (q1, .inr (7, [.ref u3, .int r2.1])), (u3, .inl (D.2 0, 400, .inl r2.2))] H := hP
  have hD : va_D A [(a0, .inr (6, [.null, .null, .null, .null, .null, .int (0 : Int32)])), (q1, .inr (7, [.ref u3, .int r2.1])), (u3, .inl (D.2 0, 400, .inl r2.2))] := hD
  refine W.widen (k := 2) (n := 402) (Nat.le_of_ble_eq_true rfl) (Nat.le_of_ble_eq_true rfl) ?_
  refine va_putF (D := D.1) (ci := 6) (v := .ref q1) (ty := (.object "TurnedWords$Tape")) (C := RX9) (T := TX9) (N := 6) hx hb hts hwX9 tyX9 tyX9_ok nmX9 hown hK.1 hP hD hS 0 rfl rfl 0 (by decide) l12 (fun _ h9 => h9) rfl hin rfl (by decide +kernel) rfl rfl (Nat.le_of_ble_eq_true rfl) dX9_init_12 (fun H locs hP hD hS => ?_)
  have hP : va_P D.1 vwCl [(a0, .inr (6, [.ref q1, .null, .null, .null, .null, .int (0 : Int32)])), (q1, .inr (7, [.ref u3, .int r2.1])), (u3, .inl (D.2 0, 400, .inl r2.2))] H := hP
  have hD : va_D A [(a0, .inr (6, [.ref q1, .null, .null, .null, .null, .int (0 : Int32)])), (q1, .inr (7, [.ref u3, .int r2.1])), (u3, .inl (D.2 0, 400, .inl r2.2))] := hD
  refine lv_aload_n hx hb dX9_init_15 rfl (lv_at hl 0 rfl) ?_
  refine va_new (ci := 5) (fs := [.null, .int (0 : Int32)]) (C := RX7) (T := TX7) (N := 2) hx hb hts hwX7 tyX7 tyX7_ok hown l18 hinstX7 hiniX7 hK.1 hP hD hS hA rfl (fun j hj => by rcases (show j = 0 ∨ j = 1 by omega) with rfl | rfl <;> rfl) (Nat.le_of_ble_eq_true rfl) (Nat.le_of_ble_eq_true rfl) dX9_init_16 (fun q4 H hP hD hS => ?_)
  have hP : va_P D.1 vwCl [(a0, .inr (6, [.ref q1, .null, .null, .null, .null, .int (0 : Int32)])), (q1, .inr (7, [.ref u3, .int r2.1])), (u3, .inl (D.2 0, 400, .inl r2.2)), (q4, .inr (5, [.null, .int (0 : Int32)]))] H := hP
  have hD : va_D A [(a0, .inr (6, [.ref q1, .null, .null, .null, .null, .int (0 : Int32)])), (q1, .inr (7, [.ref u3, .int r2.1])), (u3, .inl (D.2 0, 400, .inl r2.2)), (q4, .inr (5, [.null, .int (0 : Int32)]))] := hD
  refine W.widen (k := 3) (n := 404) (Nat.le_of_ble_eq_true rfl) (Nat.le_of_ble_eq_true rfl) ?_
  refine lv_dup hx hb dX9_init_19 rfl ?_
  refine lv_bipush (v := 40) hx hb dX9_init_20 (by decide) ?_
  obtain ⟨r5, hr5, hf⟩ := bd hf
  refine zI (As := [.int (40 : Int32)]) (rest := [.ref q4, .ref a0]) ⟨hx, hb, hml, hown, hts⟩ (mX7_init_40 l D q4 H.size r5 hr5) (cwI 1 hts gX9_init_X7_init rfl rfl rfl hiniX7 l20 hinm_X7_init rfl (by decide +kernel) ⟨Nat.le_of_ble_eq_true rfl, Nat.le_of_ble_eq_true rfl⟩) hK hP hD hS hA [3] [0, 1, 2] rfl (by decide) rfl (by decide) (by decide) rfl hl.1 rfl (Nat.le_of_ble_eq_true rfl) dX9_init_22 ⟨Nat.le_of_ble_eq_true rfl, Nat.le_of_ble_eq_true rfl⟩ (fun u6 H locs hP hD hS => ?_)
  have hP : va_P D.1 vwCl [(a0, .inr (6, [.ref q1, .null, .null, .null, .null, .int (0 : Int32)])), (q1, .inr (7, [.ref u3, .int r2.1])), (u3, .inl (D.2 0, 400, .inl r2.2)), (q4, .inr (5, [.ref u6, .int r5.1])), (u6, .inl (D.2 2, 40, .inr (.inl r5.2)))] H := hP
  have hD : va_D A [(a0, .inr (6, [.ref q1, .null, .null, .null, .null, .int (0 : Int32)])), (q1, .inr (7, [.ref u3, .int r2.1])), (u3, .inl (D.2 0, 400, .inl r2.2)), (q4, .inr (5, [.ref u6, .int r5.1])), (u6, .inl (D.2 2, 40, .inr (.inl r5.2)))] := hD
  refine W.widen (k := 4) (n := 444) (Nat.le_of_ble_eq_true rfl) (Nat.le_of_ble_eq_true rfl) ?_
  refine va_putF (D := D.1) (ci := 6) (v := .ref q4) (ty := (.object "TurnedWords$Rising")) (C := RX9) (T := TX9) (N := 6) hx hb hts hwX9 tyX9 tyX9_ok nmX9 hown hK.1 hP hD hS 0 rfl rfl 1 (by decide) l23 (fun _ h9 => h9) rfl hin rfl (by decide +kernel) rfl rfl (Nat.le_of_ble_eq_true rfl) dX9_init_25 (fun H locs hP hD hS => ?_)
  have hP : va_P D.1 vwCl [(a0, .inr (6, [.ref q1, .ref q4, .null, .null, .null, .int (0 : Int32)])), (q1, .inr (7, [.ref u3, .int r2.1])), (u3, .inl (D.2 0, 400, .inl r2.2)), (q4, .inr (5, [.ref u6, .int r5.1])), (u6, .inl (D.2 2, 40, .inr (.inl r5.2)))] H := hP
  have hD : va_D A [(a0, .inr (6, [.ref q1, .ref q4, .null, .null, .null, .int (0 : Int32)])), (q1, .inr (7, [.ref u3, .int r2.1])), (u3, .inl (D.2 0, 400, .inl r2.2)), (q4, .inr (5, [.ref u6, .int r5.1])), (u6, .inl (D.2 2, 40, .inr (.inl r5.2)))] := hD
  refine lv_aload_n hx hb dX9_init_28 rfl (lv_at hl 0 rfl) ?_
  refine va_new (ci := 5) (fs := [.null, .int (0 : Int32)]) (C := RX7) (T := TX7) (N := 2) hx hb hts hwX7 tyX7 tyX7_ok hown l18 hinstX7 hiniX7 hK.1 hP hD hS hA rfl (fun j hj => by rcases (show j = 0 ∨ j = 1 by omega) with rfl | rfl <;> rfl) (Nat.le_of_ble_eq_true rfl) (Nat.le_of_ble_eq_true rfl) dX9_init_29 (fun q7 H hP hD hS => ?_)
  have hP : va_P D.1 vwCl [(a0, .inr (6, [.ref q1, .ref q4, .null, .null, .null, .int (0 : Int32)])), (q1, .inr (7, [.ref u3, .int r2.1])), (u3, .inl (D.2 0, 400, .inl r2.2)), (q4, .inr (5, [.ref u6, .int r5.1])), (u6, .inl (D.2 2, 40, .inr (.inl r5.2))), (q7, .inr (5, [.null, .int (0 : Int32)]))] H := hP
  have hD : va_D A [(a0, .inr (6, [.ref q1, .ref q4, .null, .null, .null, .int (0 : Int32)])), (q1, .inr (7, [.ref u3, .int r2.1])), (u3, .inl (D.2 0, 400, .inl r2.2)), (q4, .inr (5, [.ref u6, .int r5.1])), (u6, .inl (D.2 2, 40, .inr (.inl r5.2))), (q7, .inr (5, [.null, .int (0 : Int32)]))] := hD
  refine W.widen (k := 5) (n := 446) (Nat.le_of_ble_eq_true rfl) (Nat.le_of_ble_eq_true rfl) ?_
  refine lv_dup hx hb dX9_init_32 rfl ?_
  refine lv_bipush (v := 40) hx hb dX9_init_33 (by decide) ?_
  obtain ⟨r8, hr8, hf⟩ := bd hf
  refine zI (As := [.int (40 : Int32)]) (rest := [.ref q7, .ref a0]) ⟨hx, hb, hml, hown, hts⟩ (mX7_init_40 l D q7 H.size r8 hr8) (cwI 1 hts gX9_init_X7_init rfl rfl rfl hiniX7 l20 hinm_X7_init rfl (by decide +kernel) ⟨Nat.le_of_ble_eq_true rfl, Nat.le_of_ble_eq_true rfl⟩) hK hP hD hS hA [5] [0, 1, 2, 3, 4] rfl (by decide) rfl (by decide) (by decide) rfl hl.1 rfl (Nat.le_of_ble_eq_true rfl) dX9_init_35 ⟨Nat.le_of_ble_eq_true rfl, Nat.le_of_ble_eq_true rfl⟩ (fun u9 H locs hP hD hS => ?_)
  have hP : va_P D.1 vwCl [(a0, .inr (6, [.ref q1, .ref q4, .null, .null, .null, .int (0 : Int32)])), (q1, .inr (7, [.ref u3, .int r2.1])), (u3, .inl (D.2 0, 400, .inl r2.2)), (q4, .inr (5, [.ref u6, .int r5.1])), (u6, .inl (D.2 2, 40, .inr (.inl r5.2))), (q7, .inr (5, [.ref u9, .int r8.1])), (u9, .inl (D.2 2, 40, .inr (.inl r8.2)))] H := hP
  have hD : va_D A [(a0, .inr (6, [.ref q1, .ref q4, .null, .null, .null, .int (0 : Int32)])), (q1, .inr (7, [.ref u3, .int r2.1])), (u3, .inl (D.2 0, 400, .inl r2.2)), (q4, .inr (5, [.ref u6, .int r5.1])), (u6, .inl (D.2 2, 40, .inr (.inl r5.2))), (q7, .inr (5, [.ref u9, .int r8.1])), (u9, .inl (D.2 2, 40, .inr (.inl r8.2)))] := hD
  refine W.widen (k := 6) (n := 486) (Nat.le_of_ble_eq_true rfl) (Nat.le_of_ble_eq_true rfl) ?_
  refine va_putF (D := D.1) (ci := 6) (v := .ref q7) (ty := (.object "TurnedWords$Rising")) (C := RX9) (T := TX9) (N := 6) hx hb hts hwX9 tyX9 tyX9_ok nmX9 hown hK.1 hP hD hS 0 rfl rfl 2 (by decide) l27 (fun _ h9 => h9) rfl hin rfl (by decide +kernel) rfl rfl (Nat.le_of_ble_eq_true rfl) dX9_init_38 (fun H locs hP hD hS => ?_)
  have hP : va_P D.1 vwCl [(a0, .inr (6, [.ref q1, .ref q4, .ref q7, .null, .null, .int (0 : Int32)])), (q1, .inr (7, [.ref u3, .int r2.1])), (u3, .inl (D.2 0, 400, .inl r2.2)), (q4, .inr (5, [.ref u6, .int r5.1])), (u6, .inl (D.2 2, 40, .inr (.inl r5.2))), (q7, .inr (5, [.ref u9, .int r8.1])), (u9, .inl (D.2 2, 40, .inr (.inl r8.2)))] H := hP
  have hD : va_D A [(a0, .inr (6, [.ref q1, .ref q4, .ref q7, .null, .null, .int (0 : Int32)])), (q1, .inr (7, [.ref u3, .int r2.1])), (u3, .inl (D.2 0, 400, .inl r2.2)), (q4, .inr (5, [.ref u6, .int r5.1])), (u6, .inl (D.2 2, 40, .inr (.inl r5.2))), (q7, .inr (5, [.ref u9, .int r8.1])), (u9, .inl (D.2 2, 40, .inr (.inl r8.2)))] := hD
  refine lv_aload_n hx hb dX9_init_41 rfl (lv_at hl 0 rfl) ?_
  refine va_new (ci := 4) (fs := [.null, .int (0 : Int32)]) (C := RX5) (T := TX5) (N := 2) hx hb hts hwX5 tyX5 tyX5_ok hown l30 hinstX5 hiniX5 hK.1 hP hD hS hA rfl (fun j hj => by rcases (show j = 0 ∨ j = 1 by omega) with rfl | rfl <;> rfl) (Nat.le_of_ble_eq_true rfl) (Nat.le_of_ble_eq_true rfl) dX9_init_42 (fun q10 H hP hD hS => ?_)
  have hP : va_P D.1 vwCl [(a0, .inr (6, [.ref q1, .ref q4, .ref q7, .null, .null, .int (0 : Int32)])), (q1, .inr (7, [.ref u3, .int r2.1])), (u3, .inl (D.2 0, 400, .inl r2.2)), (q4, .inr (5, [.ref u6, .int r5.1])), (u6, .inl (D.2 2, 40, .inr (.inl r5.2))), (q7, .inr (5, [.ref u9, .int r8.1])), (u9, .inl (D.2 2, 40, .inr (.inl r8.2))), (q10, .inr (4, [.null, .int (0 : Int32)]))] H := hP
  have hD : va_D A [(a0, .inr (6, [.ref q1, .ref q4, .ref q7, .null, .null, .int (0 : Int32)])), (q1, .inr (7, [.ref u3, .int r2.1])), (u3, .inl (D.2 0, 400, .inl r2.2)), (q4, .inr (5, [.ref u6, .int r5.1])), (u6, .inl (D.2 2, 40, .inr (.inl r5.2))), (q7, .inr (5, [.ref u9, .int r8.1])), (u9, .inl (D.2 2, 40, .inr (.inl r8.2))), (q10, .inr (4, [.null, .int (0 : Int32)]))] := hD
  refine W.widen (k := 7) (n := 488) (Nat.le_of_ble_eq_true rfl) (Nat.le_of_ble_eq_true rfl) ?_
  refine lv_dup hx hb dX9_init_45 rfl ?_
  obtain ⟨r11, hr11, hf⟩ := bd hf
  refine zI (As := []) (rest := [.ref q10, .ref a0]) ⟨hx, hb, hml, hown, hts⟩ (mX5_init l D q10 H.size r11 hr11) (cwI 0 hts gX9_init_X5_init rfl rfl rfl hiniX5 l32 hinm_X5_init rfl (by decide +kernel) ⟨Nat.le_of_ble_eq_true rfl, Nat.le_of_ble_eq_true rfl⟩) hK hP hD hS hA [7] [0, 1, 2, 3, 4, 5, 6] rfl (by decide) rfl (by decide) (by decide) rfl hl.1 rfl (Nat.le_of_ble_eq_true rfl) dX9_init_46 ⟨Nat.le_of_ble_eq_true rfl, Nat.le_of_ble_eq_true rfl⟩ (fun u12 H locs hP hD hS => ?_)
  have hP : va_P D.1 vwCl [(a0, .inr (6, [.ref q1, .ref q4, .ref q7, .null, .null, .int (0 : Int32)])), (q1, .inr (7, [.ref u3, .int r2.1])), (u3, .inl (D.2 0, 400, .inl r2.2)), (q4, .inr (5, [.ref u6, .int r5.1])), (u6, .inl (D.2 2, 40, .inr (.inl r5.2))), (q7, .inr (5, [.ref u9, .int r8.1])), (u9, .inl (D.2 2, 40, .inr (.inl r8.2))), (q10, .inr (4, [.ref u12, .int r11.1])), (u12, .inl (D.2 1, 12, .inl r11.2))] H := hP
  have hD : va_D A [(a0, .inr (6, [.ref q1, .ref q4, .ref q7, .null, .null, .int (0 : Int32)])), (q1, .inr (7, [.ref u3, .int r2.1])), (u3, .inl (D.2 0, 400, .inl r2.2)), (q4, .inr (5, [.ref u6, .int r5.1])), (u6, .inl (D.2 2, 40, .inr (.inl r5.2))), (q7, .inr (5, [.ref u9, .int r8.1])), (u9, .inl (D.2 2, 40, .inr (.inl r8.2))), (q10, .inr (4, [.ref u12, .int r11.1])), (u12, .inl (D.2 1, 12, .inl r11.2))] := hD
  refine W.widen (k := 8) (n := 500) (Nat.le_of_ble_eq_true rfl) (Nat.le_of_ble_eq_true rfl) ?_
  refine va_putF (D := D.1) (ci := 6) (v := .ref q10) (ty := (.object "TurnedWords$Pattern")) (C := RX9) (T := TX9) (N := 6) hx hb hts hwX9 tyX9 tyX9_ok nmX9 hown hK.1 hP hD hS 0 rfl rfl 3 (by decide) l33 (fun _ h9 => h9) rfl hin rfl (by decide +kernel) rfl rfl (Nat.le_of_ble_eq_true rfl) dX9_init_49 (fun H locs hP hD hS => ?_)
  have hP : va_P D.1 vwCl [(a0, .inr (6, [.ref q1, .ref q4, .ref q7, .ref q10, .null, .int (0 : Int32)])), (q1, .inr (7, [.ref u3, .int r2.1])), (u3, .inl (D.2 0, 400, .inl r2.2)), (q4, .inr (5, [.ref u6, .int r5.1])), (u6, .inl (D.2 2, 40, .inr (.inl r5.2))), (q7, .inr (5, [.ref u9, .int r8.1])), (u9, .inl (D.2 2, 40, .inr (.inl r8.2))), (q10, .inr (4, [.ref u12, .int r11.1])), (u12, .inl (D.2 1, 12, .inl r11.2))] H := hP
  have hD : va_D A [(a0, .inr (6, [.ref q1, .ref q4, .ref q7, .ref q10, .null, .int (0 : Int32)])), (q1, .inr (7, [.ref u3, .int r2.1])), (u3, .inl (D.2 0, 400, .inl r2.2)), (q4, .inr (5, [.ref u6, .int r5.1])), (u6, .inl (D.2 2, 40, .inr (.inl r5.2))), (q7, .inr (5, [.ref u9, .int r8.1])), (u9, .inl (D.2 2, 40, .inr (.inl r8.2))), (q10, .inr (4, [.ref u12, .int r11.1])), (u12, .inl (D.2 1, 12, .inl r11.2))] := hD
  refine lv_aload_n hx hb dX9_init_52 rfl (lv_at hl 0 rfl) ?_
  refine va_new (ci := 1) (fs := [.int (0 : Int32), .int (0 : Int32)]) (C := RX2) (T := TX2) (N := 2) hx hb hts hwX2 tyX2 tyX2_ok hown l37 hinstX2 hiniX2 hK.1 hP hD hS hA rfl (fun j hj => by rcases (show j = 0 ∨ j = 1 by omega) with rfl | rfl <;> rfl) (Nat.le_of_ble_eq_true rfl) (Nat.le_of_ble_eq_true rfl) dX9_init_53 (fun q13 H hP hD hS => ?_)
  have hP : va_P D.1 vwCl [(a0, .inr (6, [.ref q1, .ref q4, .ref q7, .ref q10, .null, .int (0 : Int32)])), (q1, .inr (7, [.ref u3, .int r2.1])), (u3, .inl (D.2 0, 400, .inl r2.2)), (q4, .inr (5, [.ref u6, .int r5.1])), (u6, .inl (D.2 2, 40, .inr (.inl r5.2))), (q7, .inr (5, [.ref u9, .int r8.1])), (u9, .inl (D.2 2, 40, .inr (.inl r8.2))), (q10, .inr (4, [.ref u12, .int r11.1])), (u12, .inl (D.2 1, 12, .inl r11.2)), (q13, .inr (1, [.int (0 : Int32), .int (0 : Int32)]))] H := hP
  have hD : va_D A [(a0, .inr (6, [.ref q1, .ref q4, .ref q7, .ref q10, .null, .int (0 : Int32)])), (q1, .inr (7, [.ref u3, .int r2.1])), (u3, .inl (D.2 0, 400, .inl r2.2)), (q4, .inr (5, [.ref u6, .int r5.1])), (u6, .inl (D.2 2, 40, .inr (.inl r5.2))), (q7, .inr (5, [.ref u9, .int r8.1])), (u9, .inl (D.2 2, 40, .inr (.inl r8.2))), (q10, .inr (4, [.ref u12, .int r11.1])), (u12, .inl (D.2 1, 12, .inl r11.2)), (q13, .inr (1, [.int (0 : Int32), .int (0 : Int32)]))] := hD
  refine W.widen (k := 9) (n := 502) (Nat.le_of_ble_eq_true rfl) (Nat.le_of_ble_eq_true rfl) ?_
  refine lv_dup hx hb dX9_init_56 rfl ?_
  obtain ⟨r14, hr14, hf⟩ := bd hf
  refine zI (As := []) (rest := [.ref q13, .ref a0]) ⟨hx, hb, hml, hown, hts⟩ (mX2_init l D q13 H.size r14 hr14) (cwI 0 hts gX9_init_X2_init rfl rfl rfl hiniX2 l39 hinm_X2_init rfl (by decide +kernel) ⟨Nat.le_of_ble_eq_true rfl, Nat.le_of_ble_eq_true rfl⟩) hK hP hD hS hA [9] [0, 1, 2, 3, 4, 5, 6, 7, 8] rfl (by decide) rfl (by decide) (by decide) rfl hl.1 rfl (Nat.le_of_ble_eq_true rfl) dX9_init_57 ⟨Nat.le_of_ble_eq_true rfl, Nat.le_of_ble_eq_true rfl⟩ (fun u15 H locs hP hD hS => ?_)
  have hP : va_P D.1 vwCl [(a0, .inr (6, [.ref q1, .ref q4, .ref q7, .ref q10, .null, .int (0 : Int32)])), (q1, .inr (7, [.ref u3, .int r2.1])), (u3, .inl (D.2 0, 400, .inl r2.2)), (q4, .inr (5, [.ref u6, .int r5.1])), (u6, .inl (D.2 2, 40, .inr (.inl r5.2))), (q7, .inr (5, [.ref u9, .int r8.1])), (u9, .inl (D.2 2, 40, .inr (.inl r8.2))), (q10, .inr (4, [.ref u12, .int r11.1])), (u12, .inl (D.2 1, 12, .inl r11.2)), (q13, .inr (1, [.int r14.1, .int r14.2]))] H := hP
  have hD : va_D A [(a0, .inr (6, [.ref q1, .ref q4, .ref q7, .ref q10, .null, .int (0 : Int32)])), (q1, .inr (7, [.ref u3, .int r2.1])), (u3, .inl (D.2 0, 400, .inl r2.2)), (q4, .inr (5, [.ref u6, .int r5.1])), (u6, .inl (D.2 2, 40, .inr (.inl r5.2))), (q7, .inr (5, [.ref u9, .int r8.1])), (u9, .inl (D.2 2, 40, .inr (.inl r8.2))), (q10, .inr (4, [.ref u12, .int r11.1])), (u12, .inl (D.2 1, 12, .inl r11.2)), (q13, .inr (1, [.int r14.1, .int r14.2]))] := hD
  refine W.widen (k := 9) (n := 502) (Nat.le_of_ble_eq_true rfl) (Nat.le_of_ble_eq_true rfl) ?_
  refine va_putF (D := D.1) (ci := 6) (v := .ref q13) (ty := (.object "TurnedWords$Fault")) (C := RX9) (T := TX9) (N := 6) hx hb hts hwX9 tyX9 tyX9_ok nmX9 hown hK.1 hP hD hS 0 rfl rfl 4 (by decide) l40 (fun _ h9 => h9) rfl hin rfl (by decide +kernel) rfl rfl (Nat.le_of_ble_eq_true rfl) dX9_init_60 (fun H locs hP hD hS => ?_)
  have hP : va_P D.1 vwCl [(a0, .inr (6, [.ref q1, .ref q4, .ref q7, .ref q10, .ref q13, .int (0 : Int32)])), (q1, .inr (7, [.ref u3, .int r2.1])), (u3, .inl (D.2 0, 400, .inl r2.2)), (q4, .inr (5, [.ref u6, .int r5.1])), (u6, .inl (D.2 2, 40, .inr (.inl r5.2))), (q7, .inr (5, [.ref u9, .int r8.1])), (u9, .inl (D.2 2, 40, .inr (.inl r8.2))), (q10, .inr (4, [.ref u12, .int r11.1])), (u12, .inl (D.2 1, 12, .inl r11.2)), (q13, .inr (1, [.int r14.1, .int r14.2]))] H := hP
  have hD : va_D A [(a0, .inr (6, [.ref q1, .ref q4, .ref q7, .ref q10, .ref q13, .int (0 : Int32)])), (q1, .inr (7, [.ref u3, .int r2.1])), (u3, .inl (D.2 0, 400, .inl r2.2)), (q4, .inr (5, [.ref u6, .int r5.1])), (u6, .inl (D.2 2, 40, .inr (.inl r5.2))), (q7, .inr (5, [.ref u9, .int r8.1])), (u9, .inl (D.2 2, 40, .inr (.inl r8.2))), (q10, .inr (4, [.ref u12, .int r11.1])), (u12, .inl (D.2 1, 12, .inl r11.2)), (q13, .inr (1, [.int r14.1, .int r14.2]))] := hD
  have he := Option.some.inj hf
  rw [hQ]
  exact W.vret hx hb hr (fun t ht hW => by rw [← he]; exact ⟨⟨(q1, u3, q4, u6, q7, u9, q10, u12, q13), rfl, trivial, by rw [ht]; exact hP, hD⟩, hS.F ht⟩) hS.2.2 dX9_init_63
def fX9_emptyBatch (v0_edits : Int32) (v0_dictionary_size : Int32) (g0_dictionary_rows : Nat → Int64) (v0_coming_size : Int32) (g0_coming_rows : Nat → Int64) : Option (Int32 × Int32 × (Nat → Int64)) :=
  Option.bind (fX7_copy 40 40 v0_coming_size g0_coming_rows v0_dictionary_size g0_dictionary_rows) fun r1 =>
  some ((0 : Int32), r1.1, r1.2)
set_option maxHeartbeats 4000000 in
set_option maxRecDepth 100000 in
theorem mX9_emptyBatch (l : Launch) (D : zG) (a0 : Nat) (a0_tape : Nat) (a0_dictionary : Nat) (a0_coming : Nat) (a0_pattern : Nat) (a0_fault : Nat) (a0_dictionary_rows : Nat) (a0_coming_rows : Nat) (sz : Nat)  (v0_edits : Int32) (v0_dictionary_size : Int32) (g0_dictionary_rows : Nat → Int64) (v0_coming_size : Int32) (g0_coming_rows : Nat → Int64)  (res : Int32 × Int32 × (Nat → Int64)) (hf : fX9_emptyBatch v0_edits v0_dictionary_size g0_dictionary_rows v0_coming_size g0_coming_rows = some res) : Met l yX9_emptyBatch wsX9_emptyBatch ({ frames := 2, cells := 0, slots := 0, locals := 61 } : Room) (va_Pc [.ref a0] (zW D sz [(a0, .inr (6, [.ref a0_tape, .ref a0_dictionary, .ref a0_coming, .ref a0_pattern, .ref a0_fault, .int v0_edits])), (a0_dictionary, .inr (5, [.ref a0_dictionary_rows, .int v0_dictionary_size])), (a0_dictionary_rows, .inl (D.2 2, 40, .inr (.inl g0_dictionary_rows))), (a0_coming, .inr (5, [.ref a0_coming_rows, .int v0_coming_size])), (a0_coming_rows, .inl (D.2 2, 40, .inr (.inl g0_coming_rows)))])) (va_Qv (fun (_ : Unit) => True) (fun _ => zB D (va_A [(a0, .inr (6, [.ref a0_tape, .ref a0_dictionary, .ref a0_coming, .ref a0_pattern, .ref a0_fault, .int v0_edits])), (a0_dictionary, .inr (5, [.ref a0_dictionary_rows, .int v0_dictionary_size])), (a0_dictionary_rows, .inl (D.2 2, 40, .inr (.inl g0_dictionary_rows))), (a0_coming, .inr (5, [.ref a0_coming_rows, .int v0_coming_size])), (a0_coming_rows, .inl (D.2 2, 40, .inr (.inl g0_coming_rows)))] sz) [(a0, .inr (6, [.ref a0_tape, .ref a0_dictionary, .ref a0_coming, .ref a0_pattern, .ref a0_fault, .int res.1])), (a0_dictionary, .inr (5, [.ref a0_dictionary_rows, .int v0_dictionary_size])), (a0_dictionary_rows, .inl (D.2 2, 40, .inr (.inl g0_dictionary_rows))), (a0_coming, .inr (5, [.ref a0_coming_rows, .int res.2.1])), (a0_coming_rows, .inl (D.2 2, 40, .inr (.inl res.2.2)))]) (va_A [(a0, .inr (6, [.ref a0_tape, .ref a0_dictionary, .ref a0_coming, .ref a0_pattern, .ref a0_fault, .int v0_edits])), (a0_dictionary, .inr (5, [.ref a0_dictionary_rows, .int v0_dictionary_size])), (a0_dictionary_rows, .inl (D.2 2, 40, .inr (.inl g0_dictionary_rows))), (a0_coming, .inr (5, [.ref a0_coming_rows, .int v0_coming_size])), (a0_coming_rows, .inl (D.2 2, 40, .inr (.inl g0_coming_rows)))] sz)) 0 0 (va_A [(a0, .inr (6, [.ref a0_tape, .ref a0_dictionary, .ref a0_coming, .ref a0_pattern, .ref a0_fault, .int v0_edits])), (a0_dictionary, .inr (5, [.ref a0_dictionary_rows, .int v0_dictionary_size])), (a0_dictionary_rows, .inl (D.2 2, 40, .inr (.inl g0_dictionary_rows))), (a0_coming, .inr (5, [.ref a0_coming_rows, .int v0_coming_size])), (a0_coming_rows, .inl (D.2 2, 40, .inr (.inl g0_coming_rows)))] sz) := by
  refine Met.ofW (cc := cX9_emptyBatch) (maxL := 1) (ret := none) (by decide) rfl ?_
  intro p e s m args below meth c s₁ B hml hv
  obtain ⟨rfl, hsz, hP, hK, hD0⟩ := hv
  have hx := B.exec
  have hb := B.bytes
  have hr := B.returns
  have hts := atoms_spec (ws := wsX9_emptyBatch) B.pre
  have hown : s.vm.findClass RX9 = some m.cls := findClass_of_methodNamed B.named
  have hlocks := B.notSynchronized
  subst hsz
  have hD := hD0.self (sz := s.heap.size)
  generalize hAe : va_A [(a0, .inr (6, [.ref a0_tape, .ref a0_dictionary, .ref a0_coming, .ref a0_pattern, .ref a0_fault, .int v0_edits])), (a0_dictionary, .inr (5, [.ref a0_dictionary_rows, .int v0_dictionary_size])), (a0_dictionary_rows, .inl (D.2 2, 40, .inr (.inl g0_dictionary_rows))), (a0_coming, .inr (5, [.ref a0_coming_rows, .int v0_coming_size])), (a0_coming_rows, .inl (D.2 2, 40, .inr (.inl g0_coming_rows)))] s.heap.size = A at hD ⊢
  have hA : ∀ q : Nat, s.heap.size ≤ q → A q := fun q h => by rw [← hAe]; exact Or.inr h
  have l27 := zat hts 1 (w := .fieldLink RX9 27 "TurnedWords$State" "coming" "LTurnedWords$Rising;") rfl
  have l23 := zat hts 2 (w := .fieldLink RX9 23 "TurnedWords$State" "dictionary" "LTurnedWords$Rising;") rfl
  have l48 := zat hts 3 (w := .fieldLink RX9 48 "TurnedWords$State" "edits" "I") rfl
  have hwX9 : ∀ w ∈ u_ws RX9 TX9 6, w ∈ wsX9_emptyBatch := fun w h => List.mem_cons_of_mem _ (List.mem_append_left _ (List.mem_append_right _ h))
  have hl := lv_entry ([.ref a0]) (n := 1) (Nat.le_of_ble_eq_true rfl)
  rw [lg_entry_eq]
  generalize (lg_sl ([.ref a0]) ++ List.replicate (1 - (lg_sl ([.ref a0])).length) Slot.unset).toArray = ls at hl ⊢
  have hl : lv_has ls 1 [(0, .ref a0)] := hl
  refine zStart (A := A) hP (fun Q0 H locs hQ hP hS => ?_)
  unfold fX9_emptyBatch at hf
  refine lv_aload_n hx hb dX9_emptyBatch_0 rfl (lv_at hl 0 rfl) ?_
  refine va_get (D := D.1) (ci := 6) (v := .ref a0_coming) (C := RX9) (T := TX9) (N := 6) hx hb hts hwX9 hown hK.1 hP 0 rfl rfl 2 (by decide) l27 (fun _ h9 => h9) rfl dX9_emptyBatch_1 ?_
  refine lv_aload_n hx hb dX9_emptyBatch_4 rfl (lv_at hl 0 rfl) ?_
  refine va_get (D := D.1) (ci := 6) (v := .ref a0_dictionary) (C := RX9) (T := TX9) (N := 6) hx hb hts hwX9 hown hK.1 hP 0 rfl rfl 1 (by decide) l23 (fun _ h9 => h9) rfl dX9_emptyBatch_5 ?_
  obtain ⟨r1, hr1, hf⟩ := bd hf
  refine zVv (As := [.ref a0_dictionary]) (rest := []) (ci := 5) (q0 := 0) (wn := [(a0, .inr (6, [.ref a0_tape, .ref a0_dictionary, .ref a0_coming, .ref a0_pattern, .ref a0_fault, .int v0_edits])), (a0_dictionary, .inr (5, [.ref a0_dictionary_rows, .int v0_dictionary_size])), (a0_dictionary_rows, .inl (D.2 2, 40, .inr (.inl g0_dictionary_rows))), (a0_coming, .inr (5, [.ref a0_coming_rows, .int r1.1])), (a0_coming_rows, .inl (D.2 2, 40, .inr (.inl r1.2)))]) ⟨hx, hb, hml, hown, hts⟩ (mX7_copy l D a0_coming a0_coming_rows a0_dictionary a0_dictionary_rows H.size 40 40 v0_coming_size g0_coming_rows v0_dictionary_size g0_dictionary_rows r1 hr1) (cwV 1 hts gX9_emptyBatch_X7_copy rfl rfl rfl (by decide +kernel) ⟨Nat.le_of_ble_eq_true rfl, Nat.le_of_ble_eq_true rfl⟩) hK hP hD hS hA [3, 4, 1, 2] [0] [0, 3, 4, 1, 2] rfl (by decide) rfl (by decide) (by decide) rfl (by decide) rfl rfl rfl hl.1 rfl (Nat.le_of_ble_eq_true rfl) dX9_emptyBatch_8 ⟨Nat.zero_le _, Nat.zero_le _⟩ (fun H locs hP hD hS => ?_)
  refine lv_aload_n hx hb dX9_emptyBatch_11 rfl (lv_at hl 0 rfl) ?_
  refine lv_iconst (v := 0) hx hb dX9_emptyBatch_12 (by decide) ?_
  refine va_put (D := D.1) (ci := 6) (v := .int (0 : Int32)) (ty := .int) (C := RX9) (T := TX9) (N := 6) hx hb hts hwX9 tyX9 tyX9_ok nmX9 hown hK.1 hP hD hS 0 rfl rfl 5 (by decide) l48 (fun _ h9 => h9) rfl (by decide +kernel) rfl rfl (Nat.le_of_ble_eq_true rfl) dX9_emptyBatch_13 (fun H locs hP hD hS => ?_)
  have hP : va_P D.1 vwCl [(a0, .inr (6, [.ref a0_tape, .ref a0_dictionary, .ref a0_coming, .ref a0_pattern, .ref a0_fault, .int (0 : Int32)])), (a0_dictionary, .inr (5, [.ref a0_dictionary_rows, .int v0_dictionary_size])), (a0_dictionary_rows, .inl (D.2 2, 40, .inr (.inl g0_dictionary_rows))), (a0_coming, .inr (5, [.ref a0_coming_rows, .int r1.1])), (a0_coming_rows, .inl (D.2 2, 40, .inr (.inl r1.2)))] H := hP
  have hD : va_D A [(a0, .inr (6, [.ref a0_tape, .ref a0_dictionary, .ref a0_coming, .ref a0_pattern, .ref a0_fault, .int (0 : Int32)])), (a0_dictionary, .inr (5, [.ref a0_dictionary_rows, .int v0_dictionary_size])), (a0_dictionary_rows, .inl (D.2 2, 40, .inr (.inl g0_dictionary_rows))), (a0_coming, .inr (5, [.ref a0_coming_rows, .int r1.1])), (a0_coming_rows, .inl (D.2 2, 40, .inr (.inl r1.2)))] := hD
  have he := Option.some.inj hf
  rw [hQ]
  exact W.vret hx hb hr (fun t ht hW => by rw [← he]; exact ⟨⟨(), rfl, trivial, by rw [ht]; exact hP, hD⟩, hS.F ht⟩) hS.2.2 dX9_emptyBatch_16
def fX10_copy (v0_size : Int32) (g0_bytes : Nat → Int32) (v1_size : Int32) (g1_bytes : Nat → Int32) : Option (Int32 × (Nat → Int32)) :=
  if (0 : Int32) < 0 ∨ (0 : Int32) < 0 ∨ v1_size < 0 ∨ 400 < ((0 : Int32)).toNatClampNeg + (v1_size).toNatClampNeg ∨ 400 < ((0 : Int32)).toNatClampNeg + (v1_size).toNatClampNeg ∨ ¬ (∀ i, i < (v1_size).toNatClampNeg → fits .byte (.int (g1_bytes (((0 : Int32)).toNatClampNeg + i))) = true) then none else
  some (v1_size, (va_cpy g1_bytes g0_bytes ((0 : Int32)).toNatClampNeg ((0 : Int32)).toNatClampNeg (v1_size).toNatClampNeg))
set_option maxHeartbeats 4000000 in
set_option maxRecDepth 100000 in
theorem mX10_copy (l : Launch) (D : zG) (a0 : Nat) (a0_bytes : Nat) (a1 : Nat) (a1_bytes : Nat) (sz : Nat)  (v0_size : Int32) (g0_bytes : Nat → Int32) (v1_size : Int32) (g1_bytes : Nat → Int32)  (res : Int32 × (Nat → Int32)) (hf : fX10_copy v0_size g0_bytes v1_size g1_bytes = some res) : Met l yX10_copy wsX10_copy ({ frames := 1, cells := 0, slots := 0, locals := 40 } : Room) (va_Pc [.ref a0, .ref a1] (zW D sz [(a0, .inr (7, [.ref a0_bytes, .int v0_size])), (a0_bytes, .inl (D.2 0, 400, .inl g0_bytes)), (a1, .inr (7, [.ref a1_bytes, .int v1_size])), (a1_bytes, .inl (D.2 0, 400, .inl g1_bytes))])) (va_Qv (fun (_ : Unit) => True) (fun _ => zB D (va_A [(a0, .inr (7, [.ref a0_bytes, .int v0_size])), (a0_bytes, .inl (D.2 0, 400, .inl g0_bytes)), (a1, .inr (7, [.ref a1_bytes, .int v1_size])), (a1_bytes, .inl (D.2 0, 400, .inl g1_bytes))] sz) [(a0, .inr (7, [.ref a0_bytes, .int res.1])), (a0_bytes, .inl (D.2 0, 400, .inl res.2)), (a1, .inr (7, [.ref a1_bytes, .int v1_size])), (a1_bytes, .inl (D.2 0, 400, .inl g1_bytes))]) (va_A [(a0, .inr (7, [.ref a0_bytes, .int v0_size])), (a0_bytes, .inl (D.2 0, 400, .inl g0_bytes)), (a1, .inr (7, [.ref a1_bytes, .int v1_size])), (a1_bytes, .inl (D.2 0, 400, .inl g1_bytes))] sz)) 0 0 (va_A [(a0, .inr (7, [.ref a0_bytes, .int v0_size])), (a0_bytes, .inl (D.2 0, 400, .inl g0_bytes)), (a1, .inr (7, [.ref a1_bytes, .int v1_size])), (a1_bytes, .inl (D.2 0, 400, .inl g1_bytes))] sz) := by
  refine Met.ofW (cc := cX10_copy) (maxL := 2) (ret := none) (by decide) rfl ?_
  intro p e s m args below meth c s₁ B hml hv
  obtain ⟨rfl, hsz, hP, hK, hD0⟩ := hv
  have hx := B.exec
  have hb := B.bytes
  have hr := B.returns
  have hts := atoms_spec (ws := wsX10_copy) B.pre
  have hown : s.vm.findClass RX10 = some m.cls := findClass_of_methodNamed B.named
  have hlocks := B.notSynchronized
  subst hsz
  have hD := hD0.self (sz := s.heap.size)
  generalize hAe : va_A [(a0, .inr (7, [.ref a0_bytes, .int v0_size])), (a0_bytes, .inl (D.2 0, 400, .inl g0_bytes)), (a1, .inr (7, [.ref a1_bytes, .int v1_size])), (a1_bytes, .inl (D.2 0, 400, .inl g1_bytes))] s.heap.size = A at hD ⊢
  have hA : ∀ q : Nat, s.heap.size ≤ q → A q := fun q h => by rw [← hAe]; exact Or.inr h
  have l15 := zat hts 1 (w := .fieldLink RX10 15 "TurnedWords$Tape" "size" "I") rfl
  have l9 := zat hts 2 (w := .fieldLink RX10 9 "TurnedWords$Tape" "bytes" "[B") rfl
  have l19 := zat hts 3 (w := .methodLink RX10 19 arraycopyName) rfl
  have hnatA := zat hts 4 (w := .native arraycopyName) rfl
  have hstA := zat hts 5 (w := .static arraycopyName) rfl
  have hinS := zat hts 6 (w := .initialized "java/lang/System") rfl
  have hwX10 : ∀ w ∈ u_ws RX10 TX10 2, w ∈ wsX10_copy := fun w h => List.mem_cons_of_mem _ (List.mem_append_right _ h)
  have hl := lv_entry ([.ref a0, .ref a1]) (n := 2) (Nat.le_of_ble_eq_true rfl)
  rw [lg_entry_eq]
  generalize (lg_sl ([.ref a0, .ref a1]) ++ List.replicate (2 - (lg_sl ([.ref a0, .ref a1])).length) Slot.unset).toArray = ls at hl ⊢
  have hl : lv_has ls 2 [(0, .ref a0), (1, .ref a1)] := hl
  refine zStart (A := A) hP (fun Q0 H locs hQ hP hS => ?_)
  unfold fX10_copy at hf
  refine lv_aload_n hx hb dX10_copy_0 rfl (lv_at hl 0 rfl) ?_
  refine lv_aload_n hx hb dX10_copy_1 rfl (lv_at hl 1 rfl) ?_
  refine va_get (D := D.1) (ci := 7) (v := .int v1_size) (C := RX10) (T := TX10) (N := 2) hx hb hts hwX10 hown hK.1 hP 2 rfl rfl 1 (by decide) l15 (fun _ h9 => h9) rfl dX10_copy_2 ?_
  refine va_put (D := D.1) (ci := 7) (v := .int v1_size) (ty := .int) (C := RX10) (T := TX10) (N := 2) hx hb hts hwX10 tyX10 tyX10_ok nmX10 hown hK.1 hP hD hS 0 rfl rfl 1 (by decide) l15 (fun _ h9 => h9) rfl (by decide +kernel) rfl rfl (Nat.le_of_ble_eq_true rfl) dX10_copy_5 (fun H locs hP hD hS => ?_)
  have hP : va_P D.1 vwCl [(a0, .inr (7, [.ref a0_bytes, .int v1_size])), (a0_bytes, .inl (D.2 0, 400, .inl g0_bytes)), (a1, .inr (7, [.ref a1_bytes, .int v1_size])), (a1_bytes, .inl (D.2 0, 400, .inl g1_bytes))] H := hP
  have hD : va_D A [(a0, .inr (7, [.ref a0_bytes, .int v1_size])), (a0_bytes, .inl (D.2 0, 400, .inl g0_bytes)), (a1, .inr (7, [.ref a1_bytes, .int v1_size])), (a1_bytes, .inl (D.2 0, 400, .inl g1_bytes))] := hD
  refine lv_aload_n hx hb dX10_copy_8 rfl (lv_at hl 1 rfl) ?_
  refine va_get (D := D.1) (ci := 7) (v := .ref a1_bytes) (C := RX10) (T := TX10) (N := 2) hx hb hts hwX10 hown hK.1 hP 2 rfl rfl 0 (by decide) l9 (fun _ h9 => h9) rfl dX10_copy_9 ?_
  refine lv_iconst (v := 0) hx hb dX10_copy_12 (by decide) ?_
  refine lv_aload_n hx hb dX10_copy_13 rfl (lv_at hl 0 rfl) ?_
  refine va_get (D := D.1) (ci := 7) (v := .ref a0_bytes) (C := RX10) (T := TX10) (N := 2) hx hb hts hwX10 hown hK.1 hP 0 rfl rfl 0 (by decide) l9 (fun _ h9 => h9) rfl dX10_copy_14 ?_
  refine lv_iconst (v := 0) hx hb dX10_copy_17 (by decide) ?_
  refine lv_aload_n hx hb dX10_copy_18 rfl (lv_at hl 0 rfl) ?_
  refine va_get (D := D.1) (ci := 7) (v := .int v1_size) (C := RX10) (T := TX10) (N := 2) hx hb hts hwX10 hown hK.1 hP 0 rfl rfl 1 (by decide) l15 (fun _ h9 => h9) rfl dX10_copy_19 ?_
  obtain ⟨h_1, hf⟩ := gd hf
  obtain ⟨h_2, h_3, h_4, h_5, h_6, h_7⟩ := zor6 h_1
  refine va_copyi hx hb (hml.trans hl.1.symm) hown l19 hnatA hstA hinS hK.1 hP hD hS 3 1 0 0 (ty := .byte) rfl rfl rfl rfl rfl h_2 h_3 h_4 (Nat.not_lt.mp h_5) (Nat.not_lt.mp h_6) (Classical.not_not.mp h_7) (Nat.le_of_ble_eq_true rfl) (Nat.le_of_ble_eq_true rfl) dX10_copy_22 (fun H locs hP hD hS => ?_)
  have hP : va_P D.1 vwCl [(a0, .inr (7, [.ref a0_bytes, .int v1_size])), (a0_bytes, .inl (D.2 0, 400, .inl (va_cpy g1_bytes g0_bytes ((0 : Int32)).toNatClampNeg ((0 : Int32)).toNatClampNeg (v1_size).toNatClampNeg))), (a1, .inr (7, [.ref a1_bytes, .int v1_size])), (a1_bytes, .inl (D.2 0, 400, .inl g1_bytes))] H := hP
  have hD : va_D A [(a0, .inr (7, [.ref a0_bytes, .int v1_size])), (a0_bytes, .inl (D.2 0, 400, .inl (va_cpy g1_bytes g0_bytes ((0 : Int32)).toNatClampNeg ((0 : Int32)).toNatClampNeg (v1_size).toNatClampNeg))), (a1, .inr (7, [.ref a1_bytes, .int v1_size])), (a1_bytes, .inl (D.2 0, 400, .inl g1_bytes))] := hD
  have he := Option.some.inj hf
  rw [hQ]
  exact W.vret hx hb hr (fun t ht hW => by rw [← he]; exact ⟨⟨(), rfl, trivial, by rw [ht]; exact hP, hD⟩, hS.F ht⟩) hS.2.2 dX10_copy_25
def fX9_copy (v0_edits : Int32) (v0_tape_size : Int32) (g0_tape_bytes : Nat → Int32) (v0_dictionary_size : Int32) (g0_dictionary_rows : Nat → Int64) (v0_coming_size : Int32) (g0_coming_rows : Nat → Int64) (v0_pattern_size : Int32) (g0_pattern_signs : Nat → Int32) (v0_fault_kind : Int32) (v0_fault_place : Int32) (v1_edits : Int32) (v1_tape_size : Int32) (g1_tape_bytes : Nat → Int32) (v1_dictionary_size : Int32) (g1_dictionary_rows : Nat → Int64) (v1_coming_size : Int32) (g1_coming_rows : Nat → Int64) (v1_pattern_size : Int32) (g1_pattern_signs : Nat → Int32) (v1_fault_kind : Int32) (v1_fault_place : Int32) : Option (Int32 × Int32 × (Nat → Int32) × Int32 × (Nat → Int64) × Int32 × (Nat → Int64) × Int32 × (Nat → Int32) × Int32 × Int32) :=
  Option.bind (fX10_copy v0_tape_size g0_tape_bytes v1_tape_size g1_tape_bytes) fun r1 =>
  Option.bind (fX7_copy 40 40 v0_dictionary_size g0_dictionary_rows v1_dictionary_size g1_dictionary_rows) fun r2 =>
  Option.bind (fX7_copy 40 40 v0_coming_size g0_coming_rows v1_coming_size g1_coming_rows) fun r3 =>
  Option.bind (fX5_copy v0_pattern_size g0_pattern_signs v1_pattern_size g1_pattern_signs) fun r4 =>
  Option.bind (fX2_set v0_fault_kind v0_fault_place v1_fault_kind v1_fault_place) fun r5 =>
  some (v1_edits, r1.1, r1.2, r2.1, r2.2, r3.1, r3.2, r4.1, r4.2, r5.1, r5.2)
set_option maxHeartbeats 4000000 in
set_option maxRecDepth 100000 in
theorem mX9_copy (l : Launch) (D : zG) (a0 : Nat) (a0_tape : Nat) (a0_dictionary : Nat) (a0_coming : Nat) (a0_pattern : Nat) (a0_fault : Nat) (a0_tape_bytes : Nat) (a0_dictionary_rows : Nat) (a0_coming_rows : Nat) (a0_pattern_signs : Nat) (a1 : Nat) (a1_tape : Nat) (a1_dictionary : Nat) (a1_coming : Nat) (a1_pattern : Nat) (a1_fault : Nat) (a1_tape_bytes : Nat) (a1_dictionary_rows : Nat) (a1_coming_rows : Nat) (a1_pattern_signs : Nat) (sz : Nat)  (v0_edits : Int32) (v0_tape_size : Int32) (g0_tape_bytes : Nat → Int32) (v0_dictionary_size : Int32) (g0_dictionary_rows : Nat → Int64) (v0_coming_size : Int32) (g0_coming_rows : Nat → Int64) (v0_pattern_size : Int32) (g0_pattern_signs : Nat → Int32) (v0_fault_kind : Int32) (v0_fault_place : Int32) (v1_edits : Int32) (v1_tape_size : Int32) (g1_tape_bytes : Nat → Int32) (v1_dictionary_size : Int32) (g1_dictionary_rows : Nat → Int64) (v1_coming_size : Int32) (g1_coming_rows : Nat → Int64) (v1_pattern_size : Int32) (g1_pattern_signs : Nat → Int32) (v1_fault_kind : Int32) (v1_fault_place : Int32)  (res : Int32 × Int32 × (Nat → Int32) × Int32 × (Nat → Int64) × Int32 × (Nat → Int64) × Int32 × (Nat → Int32) × Int32 × Int32) (hf : fX9_copy v0_edits v0_tape_size g0_tape_bytes v0_dictionary_size g0_dictionary_rows v0_coming_size g0_coming_rows v0_pattern_size g0_pattern_signs v0_fault_kind v0_fault_place v1_edits v1_tape_size g1_tape_bytes v1_dictionary_size g1_dictionary_rows v1_coming_size g1_coming_rows v1_pattern_size g1_pattern_signs v1_fault_kind v1_fault_place = some res) : Met l yX9_copy wsX9_copy ({ frames := 2, cells := 0, slots := 0, locals := 61 } : Room) (va_Pc [.ref a0, .ref a1] (zW D sz [(a0, .inr (6, [.ref a0_tape, .ref a0_dictionary, .ref a0_coming, .ref a0_pattern, .ref a0_fault, .int v0_edits])), (a0_tape, .inr (7, [.ref a0_tape_bytes, .int v0_tape_size])), (a0_tape_bytes, .inl (D.2 0, 400, .inl g0_tape_bytes)), (a0_dictionary, .inr (5, [.ref a0_dictionary_rows, .int v0_dictionary_size])), (a0_dictionary_rows, .inl (D.2 2, 40, .inr (.inl g0_dictionary_rows))), (a0_coming, .inr (5, [.ref a0_coming_rows, .int v0_coming_size])), (a0_coming_rows, .inl (D.2 2, 40, .inr (.inl g0_coming_rows))), (a0_pattern, .inr (4, [.ref a0_pattern_signs, .int v0_pattern_size])), (a0_pattern_signs, .inl (D.2 1, 12, .inl g0_pattern_signs)), (a0_fault, .inr (1, [.int v0_fault_kind, .int v0_fault_place])), (a1, .inr (6, [.ref a1_tape, .ref a1_dictionary, .ref a1_coming, .ref a1_pattern, .ref a1_fault, .int v1_edits])), (a1_tape, .inr (7, [.ref a1_tape_bytes, .int v1_tape_size])), (a1_tape_bytes, .inl (D.2 0, 400, .inl g1_tape_bytes)), (a1_dictionary, .inr (5, [.ref a1_dictionary_rows, .int v1_dictionary_size])), (a1_dictionary_rows, .inl (D.2 2, 40, .inr (.inl g1_dictionary_rows))), (a1_coming, .inr (5, [.ref a1_coming_rows, .int v1_coming_size])), (a1_coming_rows, .inl (D.2 2, 40, .inr (.inl g1_coming_rows))), (a1_pattern, .inr (4, [.ref a1_pattern_signs, .int v1_pattern_size])), (a1_pattern_signs, .inl (D.2 1, 12, .inl g1_pattern_signs)), (a1_fault, .inr (1, [.int v1_fault_kind, .int v1_fault_place]))])) (va_Qv (fun (_ : Unit) => True) (fun _ => zB D (va_A [(a0, .inr (6, [.ref a0_tape, .ref a0_dictionary, .ref a0_coming, .ref a0_pattern, .ref a0_fault, .int v0_edits])), (a0_tape, .inr (7, [.ref a0_tape_bytes, .int v0_tape_size])), (a0_tape_bytes, .inl (D.2 0, 400, .inl g0_tape_bytes)), (a0_dictionary, .inr (5, [.ref a0_dictionary_rows, .int v0_dictionary_size])), (a0_dictionary_rows, .inl (D.2 2, 40, .inr (.inl g0_dictionary_rows))), (a0_coming, .inr (5, [.ref a0_coming_rows, .int v0_coming_size])), (a0_coming_rows, .inl (D.2 2, 40, .inr (.inl g0_coming_rows))), (a0_pattern, .inr (4, [.ref a0_pattern_signs, .int v0_pattern_size])), (a0_pattern_signs, .inl (D.2 1, 12, .inl g0_pattern_signs)), (a0_fault, .inr (1, [.int v0_fault_kind, .int v0_fault_place])), (a1, .inr (6, [.ref a1_tape, .ref a1_dictionary, .ref a1_coming, .ref a1_pattern, .ref a1_fault, .int v1_edits])), (a1_tape, .inr (7, [.ref a1_tape_bytes, .int v1_tape_size])), (a1_tape_bytes, .inl (D.2 0, 400, .inl g1_tape_bytes)), (a1_dictionary, .inr (5, [.ref a1_dictionary_rows, .int v1_dictionary_size])), (a1_dictionary_rows, .inl (D.2 2, 40, .inr (.inl g1_dictionary_rows))), (a1_coming, .inr (5, [.ref a1_coming_rows, .int v1_coming_size])), (a1_coming_rows, .inl (D.2 2, 40, .inr (.inl g1_coming_rows))), (a1_pattern, .inr (4, [.ref a1_pattern_signs, .int v1_pattern_size])), (a1_pattern_signs, .inl (D.2 1, 12, .inl g1_pattern_signs)), (a1_fault, .inr (1, [.int v1_fault_kind, .int v1_fault_place]))] sz) [(a0, .inr (6, [.ref a0_tape, .ref a0_dictionary, .ref a0_coming, .ref a0_pattern, .ref a0_fault, .int res.1])), (a0_tape, .inr (7, [.ref a0_tape_bytes, .int res.2.1])), (a0_tape_bytes, .inl (D.2 0, 400, .inl res.2.2.1)), (a0_dictionary, .inr (5, [.ref a0_dictionary_rows, .int res.2.2.2.1])), (a0_dictionary_rows, .inl (D.2 2, 40, .inr (.inl res.2.2.2.2.1))), (a0_coming, .inr (5, [.ref a0_coming_rows, .int res.2.2.2.2.2.1])), (a0_coming_rows, .inl (D.2 2, 40, .inr (.inl res.2.2.2.2.2.2.1))), (a0_pattern, .inr (4, [.ref a0_pattern_signs, .int res.2.2.2.2.2.2.2.1])), (a0_pattern_signs, .inl (D.2 1, 12, .inl res.2.2.2.2.2.2.2.2.1)), (a0_fault, .inr (1, [.int res.2.2.2.2.2.2.2.2.2.1, .int res.2.2.2.2.2.2.2.2.2.2])), (a1, .inr (6, [.ref a1_tape, .ref a1_dictionary, .ref a1_coming, .ref a1_pattern, .ref a1_fault, .int v1_edits])), (a1_tape, .inr (7, [.ref a1_tape_bytes, .int v1_tape_size])), (a1_tape_bytes, .inl (D.2 0, 400, .inl g1_tape_bytes)), (a1_dictionary, .inr (5, [.ref a1_dictionary_rows, .int v1_dictionary_size])), (a1_dictionary_rows, .inl (D.2 2, 40, .inr (.inl g1_dictionary_rows))), (a1_coming, .inr (5, [.ref a1_coming_rows, .int v1_coming_size])), (a1_coming_rows, .inl (D.2 2, 40, .inr (.inl g1_coming_rows))), (a1_pattern, .inr (4, [.ref a1_pattern_signs, .int v1_pattern_size])), (a1_pattern_signs, .inl (D.2 1, 12, .inl g1_pattern_signs)), (a1_fault, .inr (1, [.int v1_fault_kind, .int v1_fault_place]))]) (va_A [(a0, .inr (6, [.ref a0_tape, .ref a0_dictionary, .ref a0_coming, .ref a0_pattern, .ref a0_fault, .int v0_edits])), (a0_tape, .inr (7, [.ref a0_tape_bytes, .int v0_tape_size])), (a0_tape_bytes, .inl (D.2 0, 400, .inl g0_tape_bytes)), (a0_dictionary, .inr (5, [.ref a0_dictionary_rows, .int v0_dictionary_size])), (a0_dictionary_rows, .inl (D.2 2, 40, .inr (.inl g0_dictionary_rows))), (a0_coming, .inr (5, [.ref a0_coming_rows, .int v0_coming_size])), (a0_coming_rows, .inl (D.2 2, 40, .inr (.inl g0_coming_rows))), (a0_pattern, .inr (4, [.ref a0_pattern_signs, .int v0_pattern_size])), (a0_pattern_signs, .inl (D.2 1, 12, .inl g0_pattern_signs)), (a0_fault, .inr (1, [.int v0_fault_kind, .int v0_fault_place])), (a1, .inr (6, [.ref a1_tape, .ref a1_dictionary, .ref a1_coming, .ref a1_pattern, .ref a1_fault, .int v1_edits])), (a1_tape, .inr (7, [.ref a1_tape_bytes, .int v1_tape_size])), (a1_tape_bytes, .inl (D.2 0, 400, .inl g1_tape_bytes)), (a1_dictionary, .inr (5, [.ref a1_dictionary_rows, .int v1_dictionary_size])), (a1_dictionary_rows, .inl (D.2 2, 40, .inr (.inl g1_dictionary_rows))), (a1_coming, .inr (5, [.ref a1_coming_rows, .int v1_coming_size])), (a1_coming_rows, .inl (D.2 2, 40, .inr (.inl g1_coming_rows))), (a1_pattern, .inr (4, [.ref a1_pattern_signs, .int v1_pattern_size])), (a1_pattern_signs, .inl (D.2 1, 12, .inl g1_pattern_signs)), (a1_fault, .inr (1, [.int v1_fault_kind, .int v1_fault_place]))] sz)) 0 0 (va_A [(a0, .inr (6, [.ref a0_tape, .ref a0_dictionary, .ref a0_coming, .ref a0_pattern, .ref a0_fault, .int v0_edits])), (a0_tape, .inr (7, [.ref a0_tape_bytes, .int v0_tape_size])), (a0_tape_bytes, .inl (D.2 0, 400, .inl g0_tape_bytes)), (a0_dictionary, .inr (5, [.ref a0_dictionary_rows, .int v0_dictionary_size])), (a0_dictionary_rows, .inl (D.2 2, 40, .inr (.inl g0_dictionary_rows))), (a0_coming, .inr (5, [.ref a0_coming_rows, .int v0_coming_size])), (a0_coming_rows, .inl (D.2 2, 40, .inr (.inl g0_coming_rows))), (a0_pattern, .inr (4, [.ref a0_pattern_signs, .int v0_pattern_size])), (a0_pattern_signs, .inl (D.2 1, 12, .inl g0_pattern_signs)), (a0_fault, .inr (1, [.int v0_fault_kind, .int v0_fault_place])), (a1, .inr (6, [.ref a1_tape, .ref a1_dictionary, .ref a1_coming, .ref a1_pattern, .ref a1_fault, .int v1_edits])), (a1_tape, .inr (7, [.ref a1_tape_bytes, .int v1_tape_size])), (a1_tape_bytes, .inl (D.2 0, 400, .inl g1_tape_bytes)), (a1_dictionary, .inr (5, [.ref a1_dictionary_rows, .int v1_dictionary_size])), (a1_dictionary_rows, .inl (D.2 2, 40, .inr (.inl g1_dictionary_rows))), (a1_coming, .inr (5, [.ref a1_coming_rows, .int v1_coming_size])), (a1_coming_rows, .inl (D.2 2, 40, .inr (.inl g1_coming_rows))), (a1_pattern, .inr (4, [.ref a1_pattern_signs, .int v1_pattern_size])), (a1_pattern_signs, .inl (D.2 1, 12, .inl g1_pattern_signs)), (a1_fault, .inr (1, [.int v1_fault_kind, .int v1_fault_place]))] sz) := by
  refine Met.ofW (cc := cX9_copy) (maxL := 2) (ret := none) (by decide) rfl ?_
  intro p e s m args below meth c s₁ B hml hv
  obtain ⟨rfl, hsz, hP, hK, hD0⟩ := hv
  have hx := B.exec
  have hb := B.bytes
  have hr := B.returns
  have hts := atoms_spec (ws := wsX9_copy) B.pre
  have hown : s.vm.findClass RX9 = some m.cls := findClass_of_methodNamed B.named
  have hlocks := B.notSynchronized
  subst hsz
  have hD := hD0.self (sz := s.heap.size)
  generalize hAe : va_A [(a0, .inr (6, [.ref a0_tape, .ref a0_dictionary, .ref a0_coming, .ref a0_pattern, .ref a0_fault, .int v0_edits])), (a0_tape, .inr (7, [.ref a0_tape_bytes, .int v0_tape_size])), (a0_tape_bytes, .inl (D.2 0, 400, .inl g0_tape_bytes)), (a0_dictionary, .inr (5, [.ref a0_dictionary_rows, .int v0_dictionary_size])), (a0_dictionary_rows, .inl (D.2 2, 40, .inr (.inl g0_dictionary_rows))), (a0_coming, .inr (5, [.ref a0_coming_rows, .int v0_coming_size])), (a0_coming_rows, .inl (D.2 2, 40, .inr (.inl g0_coming_rows))), (a0_pattern, .inr (4, [.ref a0_pattern_signs, .int v0_pattern_size])), (a0_pattern_signs, .inl (D.2 1, 12, .inl g0_pattern_signs)), (a0_fault, .inr (1, [.int v0_fault_kind, .int v0_fault_place])), (a1, .inr (6, [.ref a1_tape, .ref a1_dictionary, .ref a1_coming, .ref a1_pattern, .ref a1_fault, .int v1_edits])), (a1_tape, .inr (7, [.ref a1_tape_bytes, .int v1_tape_size])), (a1_tape_bytes, .inl (D.2 0, 400, .inl g1_tape_bytes)), (a1_dictionary, .inr (5, [.ref a1_dictionary_rows, .int v1_dictionary_size])), (a1_dictionary_rows, .inl (D.2 2, 40, .inr (.inl g1_dictionary_rows))), (a1_coming, .inr (5, [.ref a1_coming_rows, .int v1_coming_size])), (a1_coming_rows, .inl (D.2 2, 40, .inr (.inl g1_coming_rows))), (a1_pattern, .inr (4, [.ref a1_pattern_signs, .int v1_pattern_size])), (a1_pattern_signs, .inl (D.2 1, 12, .inl g1_pattern_signs)), (a1_fault, .inr (1, [.int v1_fault_kind, .int v1_fault_place]))] s.heap.size = A at hD ⊢
  have hA : ∀ q : Nat, s.heap.size ≤ q → A q := fun q h => by rw [← hAe]; exact Or.inr h
  have l12 := zat hts 1 (w := .fieldLink RX9 12 "TurnedWords$State" "tape" "LTurnedWords$Tape;") rfl
  have l23 := zat hts 2 (w := .fieldLink RX9 23 "TurnedWords$State" "dictionary" "LTurnedWords$Rising;") rfl
  have l27 := zat hts 3 (w := .fieldLink RX9 27 "TurnedWords$State" "coming" "LTurnedWords$Rising;") rfl
  have l33 := zat hts 4 (w := .fieldLink RX9 33 "TurnedWords$State" "pattern" "LTurnedWords$Pattern;") rfl
  have l40 := zat hts 5 (w := .fieldLink RX9 40 "TurnedWords$State" "fault" "LTurnedWords$Fault;") rfl
  have l58 := zat hts 6 (w := .fieldLink RX9 58 "TurnedWords$Fault" "kind" "I") rfl
  have l61 := zat hts 7 (w := .fieldLink RX9 61 "TurnedWords$Fault" "place" "I") rfl
  have l48 := zat hts 8 (w := .fieldLink RX9 48 "TurnedWords$State" "edits" "I") rfl
  have hwX9 : ∀ w ∈ u_ws RX9 TX9 6, w ∈ wsX9_copy := fun w h => List.mem_cons_of_mem _ (List.mem_append_left _ (List.mem_append_left _ (List.mem_append_left _ (List.mem_append_left _ (List.mem_append_right _ h)))))
  have hwX2 : ∀ w ∈ u_ws RX2 TX2 2, w ∈ wsX9_copy := fun w h => List.mem_cons_of_mem _ (List.mem_append_left _ (List.mem_append_left _ (List.mem_append_left _ (List.mem_append_right _ h))))
  have hl := lv_entry ([.ref a0, .ref a1]) (n := 2) (Nat.le_of_ble_eq_true rfl)
  rw [lg_entry_eq]
  generalize (lg_sl ([.ref a0, .ref a1]) ++ List.replicate (2 - (lg_sl ([.ref a0, .ref a1])).length) Slot.unset).toArray = ls at hl ⊢
  have hl : lv_has ls 2 [(0, .ref a0), (1, .ref a1)] := hl
  refine zStart (A := A) hP (fun Q0 H locs hQ hP hS => ?_)
  unfold fX9_copy at hf
  refine lv_aload_n hx hb dX9_copy_0 rfl (lv_at hl 0 rfl) ?_
  refine va_get (D := D.1) (ci := 6) (v := .ref a0_tape) (C := RX9) (T := TX9) (N := 6) hx hb hts hwX9 hown hK.1 hP 0 rfl rfl 0 (by decide) l12 (fun _ h9 => h9) rfl dX9_copy_1 ?_
  refine lv_aload_n hx hb dX9_copy_4 rfl (lv_at hl 1 rfl) ?_
  refine va_get (D := D.1) (ci := 6) (v := .ref a1_tape) (C := RX9) (T := TX9) (N := 6) hx hb hts hwX9 hown hK.1 hP 10 rfl rfl 0 (by decide) l12 (fun _ h9 => h9) rfl dX9_copy_5 ?_
  obtain ⟨r1, hr1, hf⟩ := bd hf
  refine zVv (As := [.ref a1_tape]) (rest := []) (ci := 7) (q0 := 0) (wn := [(a0, .inr (6, [.ref a0_tape, .ref a0_dictionary, .ref a0_coming, .ref a0_pattern, .ref a0_fault, .int v0_edits])), (a0_tape, .inr (7, [.ref a0_tape_bytes, .int r1.1])), (a0_tape_bytes, .inl (D.2 0, 400, .inl r1.2)), (a0_dictionary, .inr (5, [.ref a0_dictionary_rows, .int v0_dictionary_size])), (a0_dictionary_rows, .inl (D.2 2, 40, .inr (.inl g0_dictionary_rows))), (a0_coming, .inr (5, [.ref a0_coming_rows, .int v0_coming_size])), (a0_coming_rows, .inl (D.2 2, 40, .inr (.inl g0_coming_rows))), (a0_pattern, .inr (4, [.ref a0_pattern_signs, .int v0_pattern_size])), (a0_pattern_signs, .inl (D.2 1, 12, .inl g0_pattern_signs)), (a0_fault, .inr (1, [.int v0_fault_kind, .int v0_fault_place])), (a1, .inr (6, [.ref a1_tape, .ref a1_dictionary, .ref a1_coming, .ref a1_pattern, .ref a1_fault, .int v1_edits])), (a1_tape, .inr (7, [.ref a1_tape_bytes, .int v1_tape_size])), (a1_tape_bytes, .inl (D.2 0, 400, .inl g1_tape_bytes)), (a1_dictionary, .inr (5, [.ref a1_dictionary_rows, .int v1_dictionary_size])), (a1_dictionary_rows, .inl (D.2 2, 40, .inr (.inl g1_dictionary_rows))), (a1_coming, .inr (5, [.ref a1_coming_rows, .int v1_coming_size])), (a1_coming_rows, .inl (D.2 2, 40, .inr (.inl g1_coming_rows))), (a1_pattern, .inr (4, [.ref a1_pattern_signs, .int v1_pattern_size])), (a1_pattern_signs, .inl (D.2 1, 12, .inl g1_pattern_signs)), (a1_fault, .inr (1, [.int v1_fault_kind, .int v1_fault_place]))]) ⟨hx, hb, hml, hown, hts⟩ (mX10_copy l D a0_tape a0_tape_bytes a1_tape a1_tape_bytes H.size v0_tape_size g0_tape_bytes v1_tape_size g1_tape_bytes r1 hr1) (cwV 1 hts gX9_copy_X10_copy rfl rfl rfl (by decide +kernel) ⟨Nat.le_of_ble_eq_true rfl, Nat.le_of_ble_eq_true rfl⟩) hK hP hD hS hA [1, 2, 11, 12] [0, 3, 4, 5, 6, 7, 8, 9, 10, 13, 14, 15, 16, 17, 18, 19] [0, 16, 17, 1, 2, 3, 4, 5, 6, 7, 8, 18, 19, 9, 10, 11, 12, 13, 14, 15] rfl (by decide) rfl (by decide) (by decide) rfl (by decide) rfl rfl rfl hl.1 rfl (Nat.le_of_ble_eq_true rfl) dX9_copy_8 ⟨Nat.zero_le _, Nat.zero_le _⟩ (fun H locs hP hD hS => ?_)
  refine lv_aload_n hx hb dX9_copy_11 rfl (lv_at hl 0 rfl) ?_
  refine va_get (D := D.1) (ci := 6) (v := .ref a0_dictionary) (C := RX9) (T := TX9) (N := 6) hx hb hts hwX9 hown hK.1 hP 0 rfl rfl 1 (by decide) l23 (fun _ h9 => h9) rfl dX9_copy_12 ?_
  refine lv_aload_n hx hb dX9_copy_15 rfl (lv_at hl 1 rfl) ?_
  refine va_get (D := D.1) (ci := 6) (v := .ref a1_dictionary) (C := RX9) (T := TX9) (N := 6) hx hb hts hwX9 hown hK.1 hP 10 rfl rfl 1 (by decide) l23 (fun _ h9 => h9) rfl dX9_copy_16 ?_
  obtain ⟨r2, hr2, hf⟩ := bd hf
  refine zVv (As := [.ref a1_dictionary]) (rest := []) (ci := 5) (q0 := 0) (wn := [(a0, .inr (6, [.ref a0_tape, .ref a0_dictionary, .ref a0_coming, .ref a0_pattern, .ref a0_fault, .int v0_edits])), (a0_tape, .inr (7, [.ref a0_tape_bytes, .int r1.1])), (a0_tape_bytes, .inl (D.2 0, 400, .inl r1.2)), (a0_dictionary, .inr (5, [.ref a0_dictionary_rows, .int r2.1])), (a0_dictionary_rows, .inl (D.2 2, 40, .inr (.inl r2.2))), (a0_coming, .inr (5, [.ref a0_coming_rows, .int v0_coming_size])), (a0_coming_rows, .inl (D.2 2, 40, .inr (.inl g0_coming_rows))), (a0_pattern, .inr (4, [.ref a0_pattern_signs, .int v0_pattern_size])), (a0_pattern_signs, .inl (D.2 1, 12, .inl g0_pattern_signs)), (a0_fault, .inr (1, [.int v0_fault_kind, .int v0_fault_place])), (a1, .inr (6, [.ref a1_tape, .ref a1_dictionary, .ref a1_coming, .ref a1_pattern, .ref a1_fault, .int v1_edits])), (a1_tape, .inr (7, [.ref a1_tape_bytes, .int v1_tape_size])), (a1_tape_bytes, .inl (D.2 0, 400, .inl g1_tape_bytes)), (a1_dictionary, .inr (5, [.ref a1_dictionary_rows, .int v1_dictionary_size])), (a1_dictionary_rows, .inl (D.2 2, 40, .inr (.inl g1_dictionary_rows))), (a1_coming, .inr (5, [.ref a1_coming_rows, .int v1_coming_size])), (a1_coming_rows, .inl (D.2 2, 40, .inr (.inl g1_coming_rows))), (a1_pattern, .inr (4, [.ref a1_pattern_signs, .int v1_pattern_size])), (a1_pattern_signs, .inl (D.2 1, 12, .inl g1_pattern_signs)), (a1_fault, .inr (1, [.int v1_fault_kind, .int v1_fault_place]))]) ⟨hx, hb, hml, hown, hts⟩ (mX7_copy l D a0_dictionary a0_dictionary_rows a1_dictionary a1_dictionary_rows H.size 40 40 v0_dictionary_size g0_dictionary_rows v1_dictionary_size g1_dictionary_rows r2 hr2) (cwV 1 hts gX9_copy_X7_copy rfl rfl rfl (by decide +kernel) ⟨Nat.le_of_ble_eq_true rfl, Nat.le_of_ble_eq_true rfl⟩) hK hP hD hS hA [3, 4, 13, 14] [0, 1, 2, 5, 6, 7, 8, 9, 10, 11, 12, 15, 16, 17, 18, 19] [0, 1, 2, 16, 17, 3, 4, 5, 6, 7, 8, 9, 10, 18, 19, 11, 12, 13, 14, 15] rfl (by decide) rfl (by decide) (by decide) rfl (by decide) rfl rfl rfl hl.1 rfl (Nat.le_of_ble_eq_true rfl) dX9_copy_19 ⟨Nat.zero_le _, Nat.zero_le _⟩ (fun H locs hP hD hS => ?_)
  refine lv_aload_n hx hb dX9_copy_22 rfl (lv_at hl 0 rfl) ?_
  refine va_get (D := D.1) (ci := 6) (v := .ref a0_coming) (C := RX9) (T := TX9) (N := 6) hx hb hts hwX9 hown hK.1 hP 0 rfl rfl 2 (by decide) l27 (fun _ h9 => h9) rfl dX9_copy_23 ?_
  refine lv_aload_n hx hb dX9_copy_26 rfl (lv_at hl 1 rfl) ?_
  refine va_get (D := D.1) (ci := 6) (v := .ref a1_coming) (C := RX9) (T := TX9) (N := 6) hx hb hts hwX9 hown hK.1 hP 10 rfl rfl 2 (by decide) l27 (fun _ h9 => h9) rfl dX9_copy_27 ?_
  obtain ⟨r3, hr3, hf⟩ := bd hf
  refine zVv (As := [.ref a1_coming]) (rest := []) (ci := 5) (q0 := 0) (wn := [(a0, .inr (6, [.ref a0_tape, .ref a0_dictionary, .ref a0_coming, .ref a0_pattern, .ref a0_fault, .int v0_edits])), (a0_tape, .inr (7, [.ref a0_tape_bytes, .int r1.1])), (a0_tape_bytes, .inl (D.2 0, 400, .inl r1.2)), (a0_dictionary, .inr (5, [.ref a0_dictionary_rows, .int r2.1])), (a0_dictionary_rows, .inl (D.2 2, 40, .inr (.inl r2.2))), (a0_coming, .inr (5, [.ref a0_coming_rows, .int r3.1])), (a0_coming_rows, .inl (D.2 2, 40, .inr (.inl r3.2))), (a0_pattern, .inr (4, [.ref a0_pattern_signs, .int v0_pattern_size])), (a0_pattern_signs, .inl (D.2 1, 12, .inl g0_pattern_signs)), (a0_fault, .inr (1, [.int v0_fault_kind, .int v0_fault_place])), (a1, .inr (6, [.ref a1_tape, .ref a1_dictionary, .ref a1_coming, .ref a1_pattern, .ref a1_fault, .int v1_edits])), (a1_tape, .inr (7, [.ref a1_tape_bytes, .int v1_tape_size])), (a1_tape_bytes, .inl (D.2 0, 400, .inl g1_tape_bytes)), (a1_dictionary, .inr (5, [.ref a1_dictionary_rows, .int v1_dictionary_size])), (a1_dictionary_rows, .inl (D.2 2, 40, .inr (.inl g1_dictionary_rows))), (a1_coming, .inr (5, [.ref a1_coming_rows, .int v1_coming_size])), (a1_coming_rows, .inl (D.2 2, 40, .inr (.inl g1_coming_rows))), (a1_pattern, .inr (4, [.ref a1_pattern_signs, .int v1_pattern_size])), (a1_pattern_signs, .inl (D.2 1, 12, .inl g1_pattern_signs)), (a1_fault, .inr (1, [.int v1_fault_kind, .int v1_fault_place]))]) ⟨hx, hb, hml, hown, hts⟩ (mX7_copy l D a0_coming a0_coming_rows a1_coming a1_coming_rows H.size 40 40 v0_coming_size g0_coming_rows v1_coming_size g1_coming_rows r3 hr3) (cwV 1 hts gX9_copy_X7_copy rfl rfl rfl (by decide +kernel) ⟨Nat.le_of_ble_eq_true rfl, Nat.le_of_ble_eq_true rfl⟩) hK hP hD hS hA [5, 6, 15, 16] [0, 1, 2, 3, 4, 7, 8, 9, 10, 11, 12, 13, 14, 17, 18, 19] [0, 1, 2, 3, 4, 16, 17, 5, 6, 7, 8, 9, 10, 11, 12, 18, 19, 13, 14, 15] rfl (by decide) rfl (by decide) (by decide) rfl (by decide) rfl rfl rfl hl.1 rfl (Nat.le_of_ble_eq_true rfl) dX9_copy_30 ⟨Nat.zero_le _, Nat.zero_le _⟩ (fun H locs hP hD hS => ?_)
  refine lv_aload_n hx hb dX9_copy_33 rfl (lv_at hl 0 rfl) ?_
  refine va_get (D := D.1) (ci := 6) (v := .ref a0_pattern) (C := RX9) (T := TX9) (N := 6) hx hb hts hwX9 hown hK.1 hP 0 rfl rfl 3 (by decide) l33 (fun _ h9 => h9) rfl dX9_copy_34 ?_
  refine lv_aload_n hx hb dX9_copy_37 rfl (lv_at hl 1 rfl) ?_
  refine va_get (D := D.1) (ci := 6) (v := .ref a1_pattern) (C := RX9) (T := TX9) (N := 6) hx hb hts hwX9 hown hK.1 hP 10 rfl rfl 3 (by decide) l33 (fun _ h9 => h9) rfl dX9_copy_38 ?_
  obtain ⟨r4, hr4, hf⟩ := bd hf
  refine zVv (As := [.ref a1_pattern]) (rest := []) (ci := 4) (q0 := 0) (wn := [(a0, .inr (6, [.ref a0_tape, .ref a0_dictionary, .ref a0_coming, .ref a0_pattern, .ref a0_fault, .int v0_edits])), (a0_tape, .inr (7, [.ref a0_tape_bytes, .int r1.1])), (a0_tape_bytes, .inl (D.2 0, 400, .inl r1.2)), (a0_dictionary, .inr (5, [.ref a0_dictionary_rows, .int r2.1])), (a0_dictionary_rows, .inl (D.2 2, 40, .inr (.inl r2.2))), (a0_coming, .inr (5, [.ref a0_coming_rows, .int r3.1])), (a0_coming_rows, .inl (D.2 2, 40, .inr (.inl r3.2))), (a0_pattern, .inr (4, [.ref a0_pattern_signs, .int r4.1])), (a0_pattern_signs, .inl (D.2 1, 12, .inl r4.2)), (a0_fault, .inr (1, [.int v0_fault_kind, .int v0_fault_place])), (a1, .inr (6, [.ref a1_tape, .ref a1_dictionary, .ref a1_coming, .ref a1_pattern, .ref a1_fault, .int v1_edits])), (a1_tape, .inr (7, [.ref a1_tape_bytes, .int v1_tape_size])), (a1_tape_bytes, .inl (D.2 0, 400, .inl g1_tape_bytes)), (a1_dictionary, .inr (5, [.ref a1_dictionary_rows, .int v1_dictionary_size])), (a1_dictionary_rows, .inl (D.2 2, 40, .inr (.inl g1_dictionary_rows))), (a1_coming, .inr (5, [.ref a1_coming_rows, .int v1_coming_size])), (a1_coming_rows, .inl (D.2 2, 40, .inr (.inl g1_coming_rows))), (a1_pattern, .inr (4, [.ref a1_pattern_signs, .int v1_pattern_size])), (a1_pattern_signs, .inl (D.2 1, 12, .inl g1_pattern_signs)), (a1_fault, .inr (1, [.int v1_fault_kind, .int v1_fault_place]))]) ⟨hx, hb, hml, hown, hts⟩ (mX5_copy l D a0_pattern a0_pattern_signs a1_pattern a1_pattern_signs H.size v0_pattern_size g0_pattern_signs v1_pattern_size g1_pattern_signs r4 hr4) (cwV 1 hts gX9_copy_X5_copy rfl rfl rfl (by decide +kernel) ⟨Nat.le_of_ble_eq_true rfl, Nat.le_of_ble_eq_true rfl⟩) hK hP hD hS hA [7, 8, 17, 18] [0, 1, 2, 3, 4, 5, 6, 9, 10, 11, 12, 13, 14, 15, 16, 19] [0, 1, 2, 3, 4, 5, 6, 16, 17, 7, 8, 9, 10, 11, 12, 13, 14, 18, 19, 15] rfl (by decide) rfl (by decide) (by decide) rfl (by decide) rfl rfl rfl hl.1 rfl (Nat.le_of_ble_eq_true rfl) dX9_copy_41 ⟨Nat.zero_le _, Nat.zero_le _⟩ (fun H locs hP hD hS => ?_)
  refine lv_aload_n hx hb dX9_copy_44 rfl (lv_at hl 0 rfl) ?_
  refine va_get (D := D.1) (ci := 6) (v := .ref a0_fault) (C := RX9) (T := TX9) (N := 6) hx hb hts hwX9 hown hK.1 hP 0 rfl rfl 4 (by decide) l40 (fun _ h9 => h9) rfl dX9_copy_45 ?_
  refine lv_aload_n hx hb dX9_copy_48 rfl (lv_at hl 1 rfl) ?_
  refine va_get (D := D.1) (ci := 6) (v := .ref a1_fault) (C := RX9) (T := TX9) (N := 6) hx hb hts hwX9 hown hK.1 hP 10 rfl rfl 4 (by decide) l40 (fun _ h9 => h9) rfl dX9_copy_49 ?_
  refine va_get (D := D.1) (ci := 1) (v := .int v1_fault_kind) (C := RX2) (T := TX2) (N := 2) hx hb hts hwX2 hown hK.1 hP 19 rfl rfl 0 (by decide) l58 (fun _ h9 => h9) rfl dX9_copy_52 ?_
  refine lv_aload_n hx hb dX9_copy_55 rfl (lv_at hl 1 rfl) ?_
  refine va_get (D := D.1) (ci := 6) (v := .ref a1_fault) (C := RX9) (T := TX9) (N := 6) hx hb hts hwX9 hown hK.1 hP 10 rfl rfl 4 (by decide) l40 (fun _ h9 => h9) rfl dX9_copy_56 ?_
  refine va_get (D := D.1) (ci := 1) (v := .int v1_fault_place) (C := RX2) (T := TX2) (N := 2) hx hb hts hwX2 hown hK.1 hP 19 rfl rfl 1 (by decide) l61 (fun _ h9 => h9) rfl dX9_copy_59 ?_
  obtain ⟨r5, hr5, hf⟩ := bd hf
  refine zVv (As := [.int v1_fault_kind, .int v1_fault_place]) (rest := []) (ci := 1) (q0 := 0) (wn := [(a0, .inr (6, [.ref a0_tape, .ref a0_dictionary, .ref a0_coming, .ref a0_pattern, .ref a0_fault, .int v0_edits])), (a0_tape, .inr (7, [.ref a0_tape_bytes, .int r1.1])), (a0_tape_bytes, .inl (D.2 0, 400, .inl r1.2)), (a0_dictionary, .inr (5, [.ref a0_dictionary_rows, .int r2.1])), (a0_dictionary_rows, .inl (D.2 2, 40, .inr (.inl r2.2))), (a0_coming, .inr (5, [.ref a0_coming_rows, .int r3.1])), (a0_coming_rows, .inl (D.2 2, 40, .inr (.inl r3.2))), (a0_pattern, .inr (4, [.ref a0_pattern_signs, .int r4.1])), (a0_pattern_signs, .inl (D.2 1, 12, .inl r4.2)), (a0_fault, .inr (1, [.int r5.1, .int r5.2])), (a1, .inr (6, [.ref a1_tape, .ref a1_dictionary, .ref a1_coming, .ref a1_pattern, .ref a1_fault, .int v1_edits])), (a1_tape, .inr (7, [.ref a1_tape_bytes, .int v1_tape_size])), (a1_tape_bytes, .inl (D.2 0, 400, .inl g1_tape_bytes)), (a1_dictionary, .inr (5, [.ref a1_dictionary_rows, .int v1_dictionary_size])), (a1_dictionary_rows, .inl (D.2 2, 40, .inr (.inl g1_dictionary_rows))), (a1_coming, .inr (5, [.ref a1_coming_rows, .int v1_coming_size])), (a1_coming_rows, .inl (D.2 2, 40, .inr (.inl g1_coming_rows))), (a1_pattern, .inr (4, [.ref a1_pattern_signs, .int v1_pattern_size])), (a1_pattern_signs, .inl (D.2 1, 12, .inl g1_pattern_signs)), (a1_fault, .inr (1, [.int v1_fault_kind, .int v1_fault_place]))]) ⟨hx, hb, hml, hown, hts⟩ (mX2_set l D a0_fault H.size v0_fault_kind v0_fault_place v1_fault_kind v1_fault_place r5 hr5) (cwV 2 hts gX9_copy_X2_set rfl rfl rfl (by decide +kernel) ⟨Nat.le_of_ble_eq_true rfl, Nat.le_of_ble_eq_true rfl⟩) hK hP hD hS hA [9] [0, 1, 2, 3, 4, 5, 6, 7, 8, 10, 11, 12, 13, 14, 15, 16, 17, 18, 19] [0, 1, 2, 3, 4, 5, 6, 7, 8, 19, 9, 10, 11, 12, 13, 14, 15, 16, 17, 18] rfl (by decide) rfl (by decide) (by decide) rfl (by decide) rfl rfl rfl hl.1 rfl (Nat.le_of_ble_eq_true rfl) dX9_copy_62 ⟨Nat.zero_le _, Nat.zero_le _⟩ (fun H locs hP hD hS => ?_)
  refine lv_aload_n hx hb dX9_copy_65 rfl (lv_at hl 0 rfl) ?_
  refine lv_aload_n hx hb dX9_copy_66 rfl (lv_at hl 1 rfl) ?_
  refine va_get (D := D.1) (ci := 6) (v := .int v1_edits) (C := RX9) (T := TX9) (N := 6) hx hb hts hwX9 hown hK.1 hP 10 rfl rfl 5 (by decide) l48 (fun _ h9 => h9) rfl dX9_copy_67 ?_
  refine va_put (D := D.1) (ci := 6) (v := .int v1_edits) (ty := .int) (C := RX9) (T := TX9) (N := 6) hx hb hts hwX9 tyX9 tyX9_ok nmX9 hown hK.1 hP hD hS 0 rfl rfl 5 (by decide) l48 (fun _ h9 => h9) rfl (by decide +kernel) rfl rfl (Nat.le_of_ble_eq_true rfl) dX9_copy_70 (fun H locs hP hD hS => ?_)
  have hP : va_P D.1 vwCl [(a0, .inr (6, [.ref a0_tape, .ref a0_dictionary, .ref a0_coming, .ref a0_pattern, .ref a0_fault, .int v1_edits])), (a0_tape, .inr (7, [.ref a0_tape_bytes, .int r1.1])), (a0_tape_bytes, .inl (D.2 0, 400, .inl r1.2)), (a0_dictionary, .inr (5, [.ref a0_dictionary_rows, .int r2.1])), (a0_dictionary_rows, .inl (D.2 2, 40, .inr (.inl r2.2))), (a0_coming, .inr (5, [.ref a0_coming_rows, .int r3.1])), (a0_coming_rows, .inl (D.2 2, 40, .inr (.inl r3.2))), (a0_pattern, .inr (4, [.ref a0_pattern_signs, .int r4.1])), (a0_pattern_signs, .inl (D.2 1, 12, .inl r4.2)), (a0_fault, .inr (1, [.int r5.1, .int r5.2])), (a1, .inr (6, [.ref a1_tape, .ref a1_dictionary, .ref a1_coming, .ref a1_pattern, .ref a1_fault, .int v1_edits])), (a1_tape, .inr (7, [.ref a1_tape_bytes, .int v1_tape_size])), (a1_tape_bytes, .inl (D.2 0, 400, .inl g1_tape_bytes)), (a1_dictionary, .inr (5, [.ref a1_dictionary_rows, .int v1_dictionary_size])), (a1_dictionary_rows, .inl (D.2 2, 40, .inr (.inl g1_dictionary_rows))), (a1_coming, .inr (5, [.ref a1_coming_rows, .int v1_coming_size])), (a1_coming_rows, .inl (D.2 2, 40, .inr (.inl g1_coming_rows))), (a1_pattern, .inr (4, [.ref a1_pattern_signs, .int v1_pattern_size])), (a1_pattern_signs, .inl (D.2 1, 12, .inl g1_pattern_signs)), (a1_fault, .inr (1, [.int v1_fault_kind, .int v1_fault_place]))] H := hP
  have hD : va_D A [(a0, .inr (6, [.ref a0_tape, .ref a0_dictionary, .ref a0_coming, .ref a0_pattern, .ref a0_fault, .int v1_edits])), (a0_tape, .inr (7, [.ref a0_tape_bytes, .int r1.1])), (a0_tape_bytes, .inl (D.2 0, 400, .inl r1.2)), (a0_dictionary, .inr (5, [.ref a0_dictionary_rows, .int r2.1])), (a0_dictionary_rows, .inl (D.2 2, 40, .inr (.inl r2.2))), (a0_coming, .inr (5, [.ref a0_coming_rows, .int r3.1])), (a0_coming_rows, .inl (D.2 2, 40, .inr (.inl r3.2))), (a0_pattern, .inr (4, [.ref a0_pattern_signs, .int r4.1])), (a0_pattern_signs, .inl (D.2 1, 12, .inl r4.2)), (a0_fault, .inr (1, [.int r5.1, .int r5.2])), (a1, .inr (6, [.ref a1_tape, .ref a1_dictionary, .ref a1_coming, .ref a1_pattern, .ref a1_fault, .int v1_edits])), (a1_tape, .inr (7, [.ref a1_tape_bytes, .int v1_tape_size])), (a1_tape_bytes, .inl (D.2 0, 400, .inl g1_tape_bytes)), (a1_dictionary, .inr (5, [.ref a1_dictionary_rows, .int v1_dictionary_size])), (a1_dictionary_rows, .inl (D.2 2, 40, .inr (.inl g1_dictionary_rows))), (a1_coming, .inr (5, [.ref a1_coming_rows, .int v1_coming_size])), (a1_coming_rows, .inl (D.2 2, 40, .inr (.inl g1_coming_rows))), (a1_pattern, .inr (4, [.ref a1_pattern_signs, .int v1_pattern_size])), (a1_pattern_signs, .inl (D.2 1, 12, .inl g1_pattern_signs)), (a1_fault, .inr (1, [.int v1_fault_kind, .int v1_fault_place]))] := hD
  have he := Option.some.inj hf
  rw [hQ]
  exact W.vret hx hb hr (fun t ht hW => by rw [← he]; exact ⟨⟨(), rfl, trivial, by rw [ht]; exact hP, hD⟩, hS.F ht⟩) hS.2.2 dX9_copy_73
