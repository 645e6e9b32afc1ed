def fX4_size (v0_size : Int32) : Option (Int32) :=
  some (v0_size)
set_option maxHeartbeats 4000000 in
set_option maxRecDepth 100000 in
theorem mX4_size (l : Launch) (D : zG) (a0 : Nat) (a0_before : Nat) (sz : Nat)  (v0_size : Int32)  (res : Int32) (hf : fX4_size v0_size = some res) : Met l yX4_size wsX4_size ({ frames := 0, cells := 0, slots := 0, locals := 0 } : Room) (va_Pc [.ref a0] (zW D sz [(a0, .inr (3, [.ref a0_before, .int v0_size]))])) (va_Qi (fun r (_ : Unit) => r = res) (fun _ => zB D (va_A [(a0, .inr (3, [.ref a0_before, .int v0_size]))] sz) [(a0, .inr (3, [.ref a0_before, .int v0_size]))]) (va_A [(a0, .inr (3, [.ref a0_before, .int v0_size]))] sz)) 0 0 (va_A [(a0, .inr (3, [.ref a0_before, .int v0_size]))] sz) := by
  refine Met.ofW (cc := cX4_size) (maxL := 1) (ret := (some .int)) (by decide) rfl ?_
  intro p e s m args below meth c s₁ B hml hv
  obtain ⟨rfl, hsz, hP, hK, hD0⟩ := hv
  have hx := B.exec
  have hb := B.bytes
  have hr := B.returns
  have hts := atoms_spec (ws := wsX4_size) B.pre
  have hown : s.vm.findClass RX4 = some m.cls := findClass_of_methodNamed B.named
  have hlocks := B.notSynchronized
  subst hsz
  have hD := hD0.self (sz := s.heap.size)
  generalize hAe : va_A [(a0, .inr (3, [.ref a0_before, .int v0_size]))] s.heap.size = A at hD ⊢
  have hA : ∀ q : Nat, s.heap.size ≤ q → A q := fun q h => by rw [← hAe]; exact Or.inr h
  have l20 := zat hts 1 (w := .fieldLink RX4 20 "TurnedWords$Merges" "size" "I") rfl
  have hwX4 : ∀ w ∈ u_ws RX4 TX4 2, w ∈ wsX4_size := fun w h => List.mem_cons_of_mem _ (List.mem_append_right _ h)
  have hl := lv_entry ([.ref a0]) (n := 1) (Nat.le_of_ble_eq_true rfl)
  rw [lg_entry_eq]
  generalize (lg_sl ([.ref a0]) ++ List.replicate (1 - (lg_sl ([.ref a0])).length) Slot.unset).toArray = ls at hl ⊢
  have hl : lv_has ls 1 [(0, .ref a0)] := hl
  refine zStart (A := A) hP (fun Q0 H locs hQ hP hS => ?_)
  unfold fX4_size at hf
  refine lv_aload_n hx hb dX4_size_0 rfl (lv_at hl 0 rfl) ?_
  refine va_get (D := D.1) (ci := 3) (v := .int v0_size) (C := RX4) (T := TX4) (N := 2) hx hb hts hwX4 hown hK.1 hP 0 rfl rfl 1 (by decide) l20 (fun _ h9 => h9) rfl dX4_size_1 ?_
  have he := Option.some.inj hf
  rw [hQ]
  exact W.iret (v := v0_size) hx hb hr (fun t ht hW => by rw [← he]; exact ⟨⟨v0_size, (), rfl, rfl, by rw [ht]; exact hP, hD⟩, hS.F ht⟩) hS.2.2 dX4_size_4
def fX4_clear (v0_size : Int32) : Option (Int32) :=
  some ((0 : Int32))
set_option maxHeartbeats 4000000 in
set_option maxRecDepth 100000 in
theorem mX4_clear (l : Launch) (D : zG) (a0 : Nat) (a0_before : Nat) (sz : Nat)  (v0_size : Int32)  (res : Int32) (hf : fX4_clear v0_size = some res) : Met l yX4_clear wsX4_clear ({ frames := 0, cells := 0, slots := 0, locals := 0 } : Room) (va_Pc [.ref a0] (zW D sz [(a0, .inr (3, [.ref a0_before, .int v0_size]))])) (va_Qv (fun (_ : Unit) => True) (fun _ => zB D (va_A [(a0, .inr (3, [.ref a0_before, .int v0_size]))] sz) [(a0, .inr (3, [.ref a0_before, .int res]))]) (va_A [(a0, .inr (3, [.ref a0_before, .int v0_size]))] sz)) 0 0 (va_A [(a0, .inr (3, [.ref a0_before, .int v0_size]))] sz) := by
  refine Met.ofW (cc := cX4_clear) (maxL := 1) (ret := none) (by decide) rfl ?_
  intro p e s m args below meth c s₁ B hml hv
  obtain ⟨rfl, hsz, hP, hK, hD0⟩ := hv
  have hx := B.exec
  have hb := B.bytes
  have hr := B.returns
  have hts := atoms_spec (ws := wsX4_clear) B.pre
  have hown : s.vm.findClass RX4 = some m.cls := findClass_of_methodNamed B.named
  have hlocks := B.notSynchronized
  subst hsz
  have hD := hD0.self (sz := s.heap.size)
  generalize hAe : va_A [(a0, .inr (3, [.ref a0_before, .int v0_size]))] s.heap.size = A at hD ⊢
  have hA : ∀ q : Nat, s.heap.size ≤ q → A q := fun q h => by rw [← hAe]; exact Or.inr h
  have l20 := zat hts 1 (w := .fieldLink RX4 20 "TurnedWords$Merges" "size" "I") rfl
  have hwX4 : ∀ w ∈ u_ws RX4 TX4 2, w ∈ wsX4_clear := fun w h => List.mem_cons_of_mem _ (List.mem_append_right _ h)
  have hl := lv_entry ([.ref a0]) (n := 1) (Nat.le_of_ble_eq_true rfl)
  rw [lg_entry_eq]
  generalize (lg_sl ([.ref a0]) ++ List.replicate (1 - (lg_sl ([.ref a0])).length) Slot.unset).toArray = ls at hl ⊢
  have hl : lv_has ls 1 [(0, .ref a0)] := hl
  refine zStart (A := A) hP (fun Q0 H locs hQ hP hS => ?_)
  unfold fX4_clear at hf
  refine lv_aload_n hx hb dX4_clear_0 rfl (lv_at hl 0 rfl) ?_
  refine lv_iconst (v := 0) hx hb dX4_clear_1 (by decide) ?_
  refine va_put (D := D.1) (ci := 3) (v := .int (0 : Int32)) (ty := .int) (C := RX4) (T := TX4) (N := 2) hx hb hts hwX4 tyX4 tyX4_ok nmX4 hown hK.1 hP hD hS 0 rfl rfl 1 (by decide) l20 (fun _ h9 => h9) rfl (by decide +kernel) rfl rfl (Nat.le_of_ble_eq_true rfl) dX4_clear_2 (fun H locs hP hD hS => ?_)
  have hP : va_P D.1 vwCl [(a0, .inr (3, [.ref a0_before, .int (0 : Int32)]))] H := hP
  have hD : va_D A [(a0, .inr (3, [.ref a0_before, .int (0 : Int32)]))] := hD
  have he := Option.some.inj hf
  rw [hQ]
  exact W.vret hx hb hr (fun t ht hW => by rw [← he]; exact ⟨⟨(), rfl, trivial, by rw [ht]; exact hP, hD⟩, hS.F ht⟩) hS.2.2 dX4_clear_5
def fX4_forgetOldest (v0_size : Int32) (v0_before_0_size : Int32) (g0_before_0_rows : Nat → Int64) (v0_before_1_size : Int32) (g0_before_1_rows : Nat → Int64) (v0_before_2_size : Int32) (g0_before_2_rows : Nat → Int64) (v0_before_3_size : Int32) (g0_before_3_rows : Nat → Int64) (a0_before_0 : Nat) (a0_before_0_rows : Nat) (a0_before_1 : Nat) (a0_before_1_rows : Nat) (a0_before_2 : Nat) (a0_before_2_rows : Nat) (a0_before_3 : Nat) (a0_before_3_rows : Nat) : Option (Int32 × (Nat → Int64) × Int32 × (Nat → Int64) × Int32 × (Nat → Int64) × Int32 × (Nat → Int64)) :=
  some (v0_before_1_size, g0_before_1_rows, v0_before_2_size, g0_before_2_rows, v0_before_3_size, g0_before_3_rows, v0_before_0_size, g0_before_0_rows)
set_option maxHeartbeats 4000000 in
set_option maxRecDepth 100000 in
theorem mX4_forgetOldest (l : Launch) (D : zG) (a0 : Nat) (a0_before : Nat) (a0_before_0 : Nat) (a0_before_1 : Nat) (a0_before_2 : Nat) (a0_before_3 : Nat) (a0_before_0_rows : Nat) (a0_before_1_rows : Nat) (a0_before_2_rows : Nat) (a0_before_3_rows : Nat) (sz : Nat)  (v0_size : Int32) (v0_before_0_size : Int32) (g0_before_0_rows : Nat → Int64) (v0_before_1_size : Int32) (g0_before_1_rows : Nat → Int64) (v0_before_2_size : Int32) (g0_before_2_rows : Nat → Int64) (v0_before_3_size : Int32) (g0_before_3_rows : Nat → Int64)  (res : Int32 × (Nat → Int64) × Int32 × (Nat → Int64) × Int32 × (Nat → Int64) × Int32 × (Nat → Int64)) (hf : fX4_forgetOldest v0_size v0_before_0_size g0_before_0_rows v0_before_1_size g0_before_1_rows v0_before_2_size g0_before_2_rows v0_before_3_size g0_before_3_rows a0_before_0 a0_before_0_rows a0_before_1 a0_before_1_rows a0_before_2 a0_before_2_rows a0_before_3 a0_before_3_rows = some res) : Met l yX4_forgetOldest wsX4_forgetOldest ({ frames := 0, cells := 0, slots := 0, locals := 0 } : Room) (va_Pc [.ref a0] (zW D sz [(a0, .inr (3, [.ref a0_before, .int v0_size])), (a0_before, .inl (D.2 4, 4, .inr (.inr (.inr (.inr (zq4 (some a0_before_0) (some a0_before_1) (some a0_before_2) (some a0_before_3))))))), (a0_before_0, .inr (5, [.ref a0_before_0_rows, .int v0_before_0_size])), (a0_before_0_rows, .inl (D.2 2, 40, .inr (.inl g0_before_0_rows))), (a0_before_1, .inr (5, [.ref a0_before_1_rows, .int v0_before_1_size])), (a0_before_1_rows, .inl (D.2 2, 40, .inr (.inl g0_before_1_rows))), (a0_before_2, .inr (5, [.ref a0_before_2_rows, .int v0_before_2_size])), (a0_before_2_rows, .inl (D.2 2, 40, .inr (.inl g0_before_2_rows))), (a0_before_3, .inr (5, [.ref a0_before_3_rows, .int v0_before_3_size])), (a0_before_3_rows, .inl (D.2 2, 40, .inr (.inl g0_before_3_rows)))])) (va_Qv (fun (_ : Unit) => True) (fun _ => zB D (va_A [(a0, .inr (3, [.ref a0_before, .int v0_size])), (a0_before, .inl (D.2 4, 4, .inr (.inr (.inr (.inr (zq4 (some a0_before_0) (some a0_before_1) (some a0_before_2) (some a0_before_3))))))), (a0_before_0, .inr (5, [.ref a0_before_0_rows, .int v0_before_0_size])), (a0_before_0_rows, .inl (D.2 2, 40, .inr (.inl g0_before_0_rows))), (a0_before_1, .inr (5, [.ref a0_before_1_rows, .int v0_before_1_size])), (a0_before_1_rows, .inl (D.2 2, 40, .inr (.inl g0_before_1_rows))), (a0_before_2, .inr (5, [.ref a0_before_2_rows, .int v0_before_2_size])), (a0_before_2_rows, .inl (D.2 2, 40, .inr (.inl g0_before_2_rows))), (a0_before_3, .inr (5, [.ref a0_before_3_rows, .int v0_before_3_size])), (a0_before_3_rows, .inl (D.2 2, 40, .inr (.inl g0_before_3_rows)))] sz) [(a0, .inr (3, [.ref a0_before, .int (3 : Int32)])), (a0_before, .inl (D.2 4, 4, .inr (.inr (.inr (.inr (zq4 (some a0_before_1) (some a0_before_2) (some a0_before_3) (some a0_before_0))))))), (a0_before_1, .inr (5, [.ref a0_before_1_rows, .int res.1])), (a0_before_1_rows, .inl (D.2 2, 40, .inr (.inl res.2.1))), (a0_before_2, .inr (5, [.ref a0_before_2_rows, .int res.2.2.1])), (a0_before_2_rows, .inl (D.2 2, 40, .inr (.inl res.2.2.2.1))), (a0_before_3, .inr (5, [.ref a0_before_3_rows, .int res.2.2.2.2.1])), (a0_before_3_rows, .inl (D.2 2, 40, .inr (.inl res.2.2.2.2.2.1))), (a0_before_0, .inr (5, [.ref a0_before_0_rows, .int res.2.2.2.2.2.2.1])), (a0_before_0_rows, .inl (D.2 2, 40, .inr (.inl res.2.2.2.2.2.2.2)))]) (va_A [(a0, .inr (3, [.ref a0_before, .int v0_size])), (a0_before, .inl (D.2 4, 4, .inr (.inr (.inr (.inr (zq4 (some a0_before_0) (some a0_before_1) (some a0_before_2) (some a0_before_3))))))), (a0_before_0, .inr (5, [.ref a0_before_0_rows, .int v0_before_0_size])), (a0_before_0_rows, .inl (D.2 2, 40, .inr (.inl g0_before_0_rows))), (a0_before_1, .inr (5, [.ref a0_before_1_rows, .int v0_before_1_size])), (a0_before_1_rows, .inl (D.2 2, 40, .inr (.inl g0_before_1_rows))), (a0_before_2, .inr (5, [.ref a0_before_2_rows, .int v0_before_2_size])), (a0_before_2_rows, .inl (D.2 2, 40, .inr (.inl g0_before_2_rows))), (a0_before_3, .inr (5, [.ref a0_before_3_rows, .int v0_before_3_size])), (a0_before_3_rows, .inl (D.2 2, 40, .inr (.inl g0_before_3_rows)))] sz)) 0 0 (va_A [(a0, .inr (3, [.ref a0_before, .int v0_size])), (a0_before, .inl (D.2 4, 4, .inr (.inr (.inr (.inr (zq4 (some a0_before_0) (some a0_before_1) (some a0_before_2) (some a0_before_3))))))), (a0_before_0, .inr (5, [.ref a0_before_0_rows, .int v0_before_0_size])), (a0_before_0_rows, .inl (D.2 2, 40, .inr (.inl g0_before_0_rows))), (a0_before_1, .inr (5, [.ref a0_before_1_rows, .int v0_before_1_size])), (a0_before_1_rows, .inl (D.2 2, 40, .inr (.inl g0_before_1_rows))), (a0_before_2, .inr (5, [.ref a0_before_2_rows, .int v0_before_2_size])), (a0_before_2_rows, .inl (D.2 2, 40, .inr (.inl g0_before_2_rows))), (a0_before_3, .inr (5, [.ref a0_before_3_rows, .int v0_before_3_size])), (a0_before_3_rows, .inl (D.2 2, 40, .inr (.inl g0_before_3_rows)))] sz) := by
  refine Met.ofW (cc := cX4_forgetOldest) (maxL := 3) (ret := none) (by decide) rfl ?_
  intro p e s m args below meth c s₁ B hml hv
  obtain ⟨rfl, hsz, hP, hK, hD0⟩ := hv
  have hx := B.exec
  have hb := B.bytes
  have hr := B.returns
  have hts := atoms_spec (ws := wsX4_forgetOldest) B.pre
  have hown : s.vm.findClass RX4 = some m.cls := findClass_of_methodNamed B.named
  have hlocks := B.notSynchronized
  subst hsz
  have hD := hD0.self (sz := s.heap.size)
  generalize hAe : va_A [(a0, .inr (3, [.ref a0_before, .int v0_size])), (a0_before, .inl (D.2 4, 4, .inr (.inr (.inr (.inr (zq4 (some a0_before_0) (some a0_before_1) (some a0_before_2) (some a0_before_3))))))), (a0_before_0, .inr (5, [.ref a0_before_0_rows, .int v0_before_0_size])), (a0_before_0_rows, .inl (D.2 2, 40, .inr (.inl g0_before_0_rows))), (a0_before_1, .inr (5, [.ref a0_before_1_rows, .int v0_before_1_size])), (a0_before_1_rows, .inl (D.2 2, 40, .inr (.inl g0_before_1_rows))), (a0_before_2, .inr (5, [.ref a0_before_2_rows, .int v0_before_2_size])), (a0_before_2_rows, .inl (D.2 2, 40, .inr (.inl g0_before_2_rows))), (a0_before_3, .inr (5, [.ref a0_before_3_rows, .int v0_before_3_size])), (a0_before_3_rows, .inl (D.2 2, 40, .inr (.inl g0_before_3_rows)))] s.heap.size = A at hD ⊢
  have hA : ∀ q : Nat, s.heap.size ≤ q → A q := fun q h => by rw [← hAe]; exact Or.inr h
  have l11 := zat hts 1 (w := .fieldLink RX4 11 "TurnedWords$Merges" "before" "[LTurnedWords$Rising;") rfl
  have l20 := zat hts 2 (w := .fieldLink RX4 20 "TurnedWords$Merges" "size" "I") rfl
  have hwX4 : ∀ w ∈ u_ws RX4 TX4 2, w ∈ wsX4_forgetOldest := fun w h => List.mem_cons_of_mem _ (List.mem_append_right _ h)
  have hl := lv_entry ([.ref a0]) (n := 3) (Nat.le_of_ble_eq_true rfl)
  rw [lg_entry_eq]
  generalize (lg_sl ([.ref a0]) ++ List.replicate (3 - (lg_sl ([.ref a0])).length) Slot.unset).toArray = ls at hl ⊢
  have hl : lv_has ls 3 [(0, .ref a0)] := hl
  refine zStart (A := A) hP (fun Q0 H locs hQ hP hS => ?_)
  unfold fX4_forgetOldest at hf
  refine lv_aload_n hx hb dX4_forgetOldest_0 rfl (lv_at hl 0 rfl) ?_
  refine va_get (D := D.1) (ci := 3) (v := .ref a0_before) (C := RX4) (T := TX4) (N := 2) hx hb hts hwX4 hown hK.1 hP 0 rfl rfl 0 (by decide) l11 (fun _ h9 => h9) rfl dX4_forgetOldest_1 ?_
  refine lv_iconst (v := 0) hx hb dX4_forgetOldest_4 (by decide) ?_
  refine va_aldq hx hb hK.1 hP 1 4 rfl rfl (show ¬ ((0 : Int32) < 0 ∨ 4 ≤ ((0 : Int32)).toNatClampNeg) by decide) dX4_forgetOldest_5 ?_
  refine W.eq (g2 := F0 m 6 ls [.ref a0_before_0]) rfl ?_
  refine lv_astore_n (lv' := [(1, .ref a0_before_0), (0, .ref a0)]) hx hb dX4_forgetOldest_6 rfl hl (by decide) rfl (fun ls hl => ?_)
  refine lv_iconst (v := 1) hx hb dX4_forgetOldest_7 (by decide) ?_
  refine lv_istore_n (lv' := [(2, .int (1 : Int32)), (1, .ref a0_before_0), (0, .ref a0)]) hx hb dX4_forgetOldest_8 rfl hl (by decide) rfl (fun ls hl => ?_)
  refine lv_iload_n hx hb dX4_forgetOldest_9 rfl (lv_at hl 0 rfl) ?_
  refine lv_iconst (v := 4) hx hb dX4_forgetOldest_10 (by decide) ?_
  refine lv_icmp_ge (tgt := 34) hx hb dX4_forgetOldest_11 (by decide) (fun c_1 => absurd c_1 (by decide)) (fun _ => ?_)
  refine lv_aload_n hx hb dX4_forgetOldest_14 rfl (lv_at hl 2 rfl) ?_
  refine va_get (D := D.1) (ci := 3) (v := .ref a0_before) (C := RX4) (T := TX4) (N := 2) hx hb hts hwX4 hown hK.1 hP 0 rfl rfl 0 (by decide) l11 (fun _ h9 => h9) rfl dX4_forgetOldest_15 ?_
  refine lv_iload_n hx hb dX4_forgetOldest_18 rfl (lv_at hl 0 rfl) ?_
  refine lv_iconst (v := 1) hx hb dX4_forgetOldest_19 (by decide) ?_
  refine lv_isub hx hb dX4_forgetOldest_20 ?_
  refine lv_aload_n hx hb dX4_forgetOldest_21 rfl (lv_at hl 2 rfl) ?_
  refine va_get (D := D.1) (ci := 3) (v := .ref a0_before) (C := RX4) (T := TX4) (N := 2) hx hb hts hwX4 hown hK.1 hP 0 rfl rfl 0 (by decide) l11 (fun _ h9 => h9) rfl dX4_forgetOldest_22 ?_
  refine lv_iload_n hx hb dX4_forgetOldest_25 rfl (lv_at hl 0 rfl) ?_
  refine va_aldq hx hb hK.1 hP 1 4 rfl rfl (show ¬ ((1 : Int32) < 0 ∨ 4 ≤ ((1 : Int32)).toNatClampNeg) by decide) dX4_forgetOldest_26 ?_
  refine W.eq (g2 := F0 m 27 ls [.ref a0_before_1, .int ((1 : Int32) - (1 : Int32)), .ref a0_before]) rfl ?_
  refine va_astq hx hb hK.1 hP hD hS 1 4 4 5 rfl rfl rfl rfl (show ¬ (((1 : Int32) - (1 : Int32)) < 0 ∨ 4 ≤ (((1 : Int32) - (1 : Int32))).toNatClampNeg) by decide) dX4_forgetOldest_27 (fun H locs hP hD hS => ?_)
  have h_2 : (va_up (zq4 (some a0_before_0) (some a0_before_1) (some a0_before_2) (some a0_before_3)) (((1 : Int32) - (1 : Int32))).toNatClampNeg (some a0_before_1)) = (zq4 (some a0_before_1) (some a0_before_1) (some a0_before_2) (some a0_before_3)) := zq4_u0 (some a0_before_0) (some a0_before_1) (some a0_before_2) (some a0_before_3) (some a0_before_1)
  have hP : va_P D.1 vwCl [(a0, .inr (3, [.ref a0_before, .int v0_size])), (a0_before, .inl (D.2 4, 4, .inr (.inr (.inr (.inr (zq4 (some a0_before_1) (some a0_before_1) (some a0_before_2) (some a0_before_3))))))), (a0_before_0, .inr (5, [.ref a0_before_0_rows, .int v0_before_0_size])), (a0_before_0_rows, .inl (D.2 2, 40, .inr (.inl g0_before_0_rows))), (a0_before_1, .inr (5, [.ref a0_before_1_rows, .int v0_before_1_size])), (a0_before_1_rows, .inl (D.2 2, 40, .inr (.inl g0_before_1_rows))), (a0_before_2, .inr (5, [.ref a0_before_2_rows, .int v0_before_2_size])), (a0_before_2_rows, .inl (D.2 2, 40, .inr (.inl g0_before_2_rows))), (a0_before_3, .inr (5, [.ref a0_before_3_rows, .int v0_before_3_size])), (a0_before_3_rows, .inl (D.2 2, 40, .inr (.inl g0_before_3_rows)))] H := by rw [← h_2]; exact hP
  have hD : va_D A [(a0, .inr (3, [.ref a0_before, .int v0_size])), (a0_before, .inl (D.2 4, 4, .inr (.inr (.inr (.inr (zq4 (some a0_before_1) (some a0_before_1) (some a0_before_2) (some a0_before_3))))))), (a0_before_0, .inr (5, [.ref a0_before_0_rows, .int v0_before_0_size])), (a0_before_0_rows, .inl (D.2 2, 40, .inr (.inl g0_before_0_rows))), (a0_before_1, .inr (5, [.ref a0_before_1_rows, .int v0_before_1_size])), (a0_before_1_rows, .inl (D.2 2, 40, .inr (.inl g0_before_1_rows))), (a0_before_2, .inr (5, [.ref a0_before_2_rows, .int v0_before_2_size])), (a0_before_2_rows, .inl (D.2 2, 40, .inr (.inl g0_before_2_rows))), (a0_before_3, .inr (5, [.ref a0_before_3_rows, .int v0_before_3_size])), (a0_before_3_rows, .inl (D.2 2, 40, .inr (.inl g0_before_3_rows)))] := by rw [← h_2]; exact hD
  refine lv_iinc (v := ((1 : Int32) + (1 : Int32))) (lv' := [(2, .int ((1 : Int32) + (1 : Int32))), (1, .ref a0_before_0), (0, .ref a0)]) hx hb dX4_forgetOldest_28 hl (k := 0) rfl rfl (by decide) rfl (fun ls hl => ?_)
  refine lv_goto (tgt := 9) hx hb dX4_forgetOldest_31 (by decide) ?_
  refine lv_iload_n hx hb dX4_forgetOldest_9 rfl (lv_at hl 0 rfl) ?_
  refine lv_iconst (v := 4) hx hb dX4_forgetOldest_10 (by decide) ?_
  refine lv_icmp_ge (tgt := 34) hx hb dX4_forgetOldest_11 (by decide) (fun c_3 => absurd c_3 (by decide)) (fun _ => ?_)
  refine lv_aload_n hx hb dX4_forgetOldest_14 rfl (lv_at hl 2 rfl) ?_
  refine va_get (D := D.1) (ci := 3) (v := .ref a0_before) (C := RX4) (T := TX4) (N := 2) hx hb hts hwX4 hown hK.1 hP 0 rfl rfl 0 (by decide) l11 (fun _ h9 => h9) rfl dX4_forgetOldest_15 ?_
  refine lv_iload_n hx hb dX4_forgetOldest_18 rfl (lv_at hl 0 rfl) ?_
  refine lv_iconst (v := 1) hx hb dX4_forgetOldest_19 (by decide) ?_
  refine lv_isub hx hb dX4_forgetOldest_20 ?_
  refine lv_aload_n hx hb dX4_forgetOldest_21 rfl (lv_at hl 2 rfl) ?_
  refine va_get (D := D.1) (ci := 3) (v := .ref a0_before) (C := RX4) (T := TX4) (N := 2) hx hb hts hwX4 hown hK.1 hP 0 rfl rfl 0 (by decide) l11 (fun _ h9 => h9) rfl dX4_forgetOldest_22 ?_
  refine lv_iload_n hx hb dX4_forgetOldest_25 rfl (lv_at hl 0 rfl) ?_
  refine va_aldq hx hb hK.1 hP 1 4 rfl rfl (show ¬ (((1 : Int32) + (1 : Int32)) < 0 ∨ 4 ≤ (((1 : Int32) + (1 : Int32))).toNatClampNeg) by decide) dX4_forgetOldest_26 ?_
  refine W.eq (g2 := F0 m 27 ls [.ref a0_before_2, .int (((1 : Int32) + (1 : Int32)) - (1 : Int32)), .ref a0_before]) rfl ?_
  refine va_astq hx hb hK.1 hP hD hS 1 4 6 5 rfl rfl rfl rfl (show ¬ ((((1 : Int32) + (1 : Int32)) - (1 : Int32)) < 0 ∨ 4 ≤ ((((1 : Int32) + (1 : Int32)) - (1 : Int32))).toNatClampNeg) by decide) dX4_forgetOldest_27 (fun H locs hP hD hS => ?_)
  have h_4 : (va_up (zq4 (some a0_before_1) (some a0_before_1) (some a0_before_2) (some a0_before_3)) ((((1 : Int32) + (1 : Int32)) - (1 : Int32))).toNatClampNeg (some a0_before_2)) = (zq4 (some a0_before_1) (some a0_before_2) (some a0_before_2) (some a0_before_3)) := zq4_u1 (some a0_before_1) (some a0_before_1) (some a0_before_2) (some a0_before_3) (some a0_before_2)
  have hP : va_P D.1 vwCl [(a0, .inr (3, [.ref a0_before, .int v0_size])), (a0_before, .inl (D.2 4, 4, .inr (.inr (.inr (.inr (zq4 (some a0_before_1) (some a0_before_2) (some a0_before_2) (some a0_before_3))))))), (a0_before_0, .inr (5, [.ref a0_before_0_rows, .int v0_before_0_size])), (a0_before_0_rows, .inl (D.2 2, 40, .inr (.inl g0_before_0_rows))), (a0_before_1, .inr (5, [.ref a0_before_1_rows, .int v0_before_1_size])), (a0_before_1_rows, .inl (D.2 2, 40, .inr (.inl g0_before_1_rows))), (a0_before_2, .inr (5, [.ref a0_before_2_rows, .int v0_before_2_size])), (a0_before_2_rows, .inl (D.2 2, 40, .inr (.inl g0_before_2_rows))), (a0_before_3, .inr (5, [.ref a0_before_3_rows, .int v0_before_3_size])), (a0_before_3_rows, .inl (D.2 2, 40, .inr (.inl g0_before_3_rows)))] H := by rw [← h_4]; exact hP
  have hD : va_D A [(a0, .inr (3, [.ref a0_before, .int v0_size])), (a0_before, .inl (D.2 4, 4, .inr (.inr (.inr (.inr (zq4 (some a0_before_1) (some a0_before_2) (some a0_before_2) (some a0_before_3))))))), (a0_before_0, .inr (5, [.ref a0_before_0_rows, .int v0_before_0_size])), (a0_before_0_rows, .inl (D.2 2, 40, .inr (.inl g0_before_0_rows))), (a0_before_1, .inr (5, [.ref a0_before_1_rows, .int v0_before_1_size])), (a0_before_1_rows, .inl (D.2 2, 40, .inr (.inl g0_before_1_rows))), (a0_before_2, .inr (5, [.ref a0_before_2_rows, .int v0_before_2_size])), (a0_before_2_rows, .inl (D.2 2, 40, .inr (.inl g0_before_2_rows))), (a0_before_3, .inr (5, [.ref a0_before_3_rows, .int v0_before_3_size])), (a0_before_3_rows, .inl (D.2 2, 40, .inr (.inl g0_before_3_rows)))] := by rw [← h_4]; exact hD
  refine lv_iinc (v := (((1 : Int32) + (1 : Int32)) + (1 : Int32))) (lv' := [(2, .int (((1 : Int32) + (1 : Int32)) + (1 : Int32))), (1, .ref a0_before_0), (0, .ref a0)]) hx hb dX4_forgetOldest_28 hl (k := 0) rfl rfl (by decide) rfl (fun ls hl => ?_)
  refine lv_goto (tgt := 9) hx hb dX4_forgetOldest_31 (by decide) ?_
  refine lv_iload_n hx hb dX4_forgetOldest_9 rfl (lv_at hl 0 rfl) ?_
  refine lv_iconst (v := 4) hx hb dX4_forgetOldest_10 (by decide) ?_
  refine lv_icmp_ge (tgt := 34) hx hb dX4_forgetOldest_11 (by decide) (fun c_5 => absurd c_5 (by decide)) (fun _ => ?_)
  refine lv_aload_n hx hb dX4_forgetOldest_14 rfl (lv_at hl 2 rfl) ?_
  refine va_get (D := D.1) (ci := 3) (v := .ref a0_before) (C := RX4) (T := TX4) (N := 2) hx hb hts hwX4 hown hK.1 hP 0 rfl rfl 0 (by decide) l11 (fun _ h9 => h9) rfl dX4_forgetOldest_15 ?_
  refine lv_iload_n hx hb dX4_forgetOldest_18 rfl (lv_at hl 0 rfl) ?_
  refine lv_iconst (v := 1) hx hb dX4_forgetOldest_19 (by decide) ?_
  refine lv_isub hx hb dX4_forgetOldest_20 ?_
  refine lv_aload_n hx hb dX4_forgetOldest_21 rfl (lv_at hl 2 rfl) ?_
  refine va_get (D := D.1) (ci := 3) (v := .ref a0_before) (C := RX4) (T := TX4) (N := 2) hx hb hts hwX4 hown hK.1 hP 0 rfl rfl 0 (by decide) l11 (fun _ h9 => h9) rfl dX4_forgetOldest_22 ?_
  refine lv_iload_n hx hb dX4_forgetOldest_25 rfl (lv_at hl 0 rfl) ?_
  refine va_aldq hx hb hK.1 hP 1 4 rfl rfl (show ¬ ((((1 : Int32) + (1 : Int32)) + (1 : Int32)) < 0 ∨ 4 ≤ ((((1 : Int32) + (1 : Int32)) + (1 : Int32))).toNatClampNeg) by decide) dX4_forgetOldest_26 ?_
  refine W.eq (g2 := F0 m 27 ls [.ref a0_before_3, .int ((((1 : Int32) + (1 : Int32)) + (1 : Int32)) - (1 : Int32)), .ref a0_before]) rfl ?_
  refine va_astq hx hb hK.1 hP hD hS 1 4 8 5 rfl rfl rfl rfl (show ¬ (((((1 : Int32) + (1 : Int32)) + (1 : Int32)) - (1 : Int32)) < 0 ∨ 4 ≤ (((((1 : Int32) + (1 : Int32)) + (1 : Int32)) - (1 : Int32))).toNatClampNeg) by decide) dX4_forgetOldest_27 (fun H locs hP hD hS => ?_)
  have h_6 : (va_up (zq4 (some a0_before_1) (some a0_before_2) (some a0_before_2) (some a0_before_3)) (((((1 : Int32) + (1 : Int32)) + (1 : Int32)) - (1 : Int32))).toNatClampNeg (some a0_before_3)) = (zq4 (some a0_before_1) (some a0_before_2) (some a0_before_3) (some a0_before_3)) := zq4_u2 (some a0_before_1) (some a0_before_2) (some a0_before_2) (some a0_before_3) (some a0_before_3)
  have hP : va_P D.1 vwCl [(a0, .inr (3, [.ref a0_before, .int v0_size])), (a0_before, .inl (D.2 4, 4, .inr (.inr (.inr (.inr (zq4 (some a0_before_1) (some a0_before_2) (some a0_before_3) (some a0_before_3))))))), (a0_before_0, .inr (5, [.ref a0_before_0_rows, .int v0_before_0_size])), (a0_before_0_rows, .inl (D.2 2, 40, .inr (.inl g0_before_0_rows))), (a0_before_1, .inr (5, [.ref a0_before_1_rows, .int v0_before_1_size])), (a0_before_1_rows, .inl (D.2 2, 40, .inr (.inl g0_before_1_rows))), (a0_before_2, .inr (5, [.ref a0_before_2_rows, .int v0_before_2_size])), (a0_before_2_rows, .inl (D.2 2, 40, .inr (.inl g0_before_2_rows))), (a0_before_3, .inr (5, [.ref a0_before_3_rows, .int v0_before_3_size])), (a0_before_3_rows, .inl (D.2 2, 40, .inr (.inl g0_before_3_rows)))] H := by rw [← h_6]; exact hP
  have hD : va_D A [(a0, .inr (3, [.ref a0_before, .int v0_size])), (a0_before, .inl (D.2 4, 4, .inr (.inr (.inr (.inr (zq4 (some a0_before_1) (some a0_before_2) (some a0_before_3) (some a0_before_3))))))), (a0_before_0, .inr (5, [.ref a0_before_0_rows, .int v0_before_0_size])), (a0_before_0_rows, .inl (D.2 2, 40, .inr (.inl g0_before_0_rows))), (a0_before_1, .inr (5, [.ref a0_before_1_rows, .int v0_before_1_size])), (a0_before_1_rows, .inl (D.2 2, 40, .inr (.inl g0_before_1_rows))), (a0_before_2, .inr (5, [.ref a0_before_2_rows, .int v0_before_2_size])), (a0_before_2_rows, .inl (D.2 2, 40, .inr (.inl g0_before_2_rows))), (a0_before_3, .inr (5, [.ref a0_before_3_rows, .int v0_before_3_size])), (a0_before_3_rows, .inl (D.2 2, 40, .inr (.inl g0_before_3_rows)))] := by rw [← h_6]; exact hD
  refine lv_iinc (v := ((((1 : Int32) + (1 : Int32)) + (1 : Int32)) + (1 : Int32))) (lv' := [(2, .int ((((1 : Int32) + (1 : Int32)) + (1 : Int32)) + (1 : Int32))), (1, .ref a0_before_0), (0, .ref a0)]) hx hb dX4_forgetOldest_28 hl (k := 0) rfl rfl (by decide) rfl (fun ls hl => ?_)
  refine lv_goto (tgt := 9) hx hb dX4_forgetOldest_31 (by decide) ?_
  refine lv_iload_n hx hb dX4_forgetOldest_9 rfl (lv_at hl 0 rfl) ?_
  refine lv_iconst (v := 4) hx hb dX4_forgetOldest_10 (by decide) ?_
  refine lv_icmp_ge (tgt := 34) hx hb dX4_forgetOldest_11 (by decide) (fun _ => ?_) (fun c_7 => absurd (by decide) c_7)
  refine lv_aload_n hx hb dX4_forgetOldest_34 rfl (lv_at hl 2 rfl) ?_
  refine va_get (D := D.1) (ci := 3) (v := .ref a0_before) (C := RX4) (T := TX4) (N := 2) hx hb hts hwX4 hown hK.1 hP 0 rfl rfl 0 (by decide) l11 (fun _ h9 => h9) rfl dX4_forgetOldest_35 ?_
  refine lv_iconst (v := 3) hx hb dX4_forgetOldest_38 (by decide) ?_
  refine lv_aload_n hx hb dX4_forgetOldest_39 rfl (lv_at hl 1 rfl) ?_
  refine va_astq hx hb hK.1 hP hD hS 1 4 2 5 rfl rfl rfl rfl (show ¬ ((3 : Int32) < 0 ∨ 4 ≤ ((3 : Int32)).toNatClampNeg) by decide) dX4_forgetOldest_40 (fun H locs hP hD hS => ?_)
  have h_8 : (va_up (zq4 (some a0_before_1) (some a0_before_2) (some a0_before_3) (some a0_before_3)) ((3 : Int32)).toNatClampNeg (some a0_before_0)) = (zq4 (some a0_before_1) (some a0_before_2) (some a0_before_3) (some a0_before_0)) := zq4_u3 (some a0_before_1) (some a0_before_2) (some a0_before_3) (some a0_before_3) (some a0_before_0)
  have hP : va_P D.1 vwCl [(a0, .inr (3, [.ref a0_before, .int v0_size])), (a0_before, .inl (D.2 4, 4, .inr (.inr (.inr (.inr (zq4 (some a0_before_1) (some a0_before_2) (some a0_before_3) (some a0_before_0))))))), (a0_before_0, .inr (5, [.ref a0_before_0_rows, .int v0_before_0_size])), (a0_before_0_rows, .inl (D.2 2, 40, .inr (.inl g0_before_0_rows))), (a0_before_1, .inr (5, [.ref a0_before_1_rows, .int v0_before_1_size])), (a0_before_1_rows, .inl (D.2 2, 40, .inr (.inl g0_before_1_rows))), (a0_before_2, .inr (5, [.ref a0_before_2_rows, .int v0_before_2_size])), (a0_before_2_rows, .inl (D.2 2, 40, .inr (.inl g0_before_2_rows))), (a0_before_3, .inr (5, [.ref a0_before_3_rows, .int v0_before_3_size])), (a0_before_3_rows, .inl (D.2 2, 40, .inr (.inl g0_before_3_rows)))] H := by rw [← h_8]; exact hP
  have hD : va_D A [(a0, .inr (3, [.ref a0_before, .int v0_size])), (a0_before, .inl (D.2 4, 4, .inr (.inr (.inr (.inr (zq4 (some a0_before_1) (some a0_before_2) (some a0_before_3) (some a0_before_0))))))), (a0_before_0, .inr (5, [.ref a0_before_0_rows, .int v0_before_0_size])), (a0_before_0_rows, .inl (D.2 2, 40, .inr (.inl g0_before_0_rows))), (a0_before_1, .inr (5, [.ref a0_before_1_rows, .int v0_before_1_size])), (a0_before_1_rows, .inl (D.2 2, 40, .inr (.inl g0_before_1_rows))), (a0_before_2, .inr (5, [.ref a0_before_2_rows, .int v0_before_2_size])), (a0_before_2_rows, .inl (D.2 2, 40, .inr (.inl g0_before_2_rows))), (a0_before_3, .inr (5, [.ref a0_before_3_rows, .int v0_before_3_size])), (a0_before_3_rows, .inl (D.2 2, 40, .inr (.inl g0_before_3_rows)))] := by rw [← h_8]; exact hD
  refine lv_aload_n hx hb dX4_forgetOldest_41 rfl (lv_at hl 2 rfl) ?_
  refine lv_iconst (v := 3) hx hb dX4_forgetOldest_42 (by decide) ?_
  refine va_put (D := D.1) (ci := 3) (v := .int (3 : Int32)) (ty := .int) (C := RX4) (T := TX4) (N := 2) hx hb hts hwX4 tyX4 tyX4_ok nmX4 hown hK.1 hP hD hS 0 rfl rfl 1 (by decide) l20 (fun _ h9 => h9) rfl (by decide +kernel) rfl rfl (Nat.le_of_ble_eq_true rfl) dX4_forgetOldest_43 (fun H locs hP hD hS => ?_)
  have hP : va_P D.1 vwCl [(a0, .inr (3, [.ref a0_before, .int (3 : Int32)])), (a0_before, .inl (D.2 4, 4, .inr (.inr (.inr (.inr (zq4 (some a0_before_1) (some a0_before_2) (some a0_before_3) (some a0_before_0))))))), (a0_before_0, .inr (5, [.ref a0_before_0_rows, .int v0_before_0_size])), (a0_before_0_rows, .inl (D.2 2, 40, .inr (.inl g0_before_0_rows))), (a0_before_1, .inr (5, [.ref a0_before_1_rows, .int v0_before_1_size])), (a0_before_1_rows, .inl (D.2 2, 40, .inr (.inl g0_before_1_rows))), (a0_before_2, .inr (5, [.ref a0_before_2_rows, .int v0_before_2_size])), (a0_before_2_rows, .inl (D.2 2, 40, .inr (.inl g0_before_2_rows))), (a0_before_3, .inr (5, [.ref a0_before_3_rows, .int v0_before_3_size])), (a0_before_3_rows, .inl (D.2 2, 40, .inr (.inl g0_before_3_rows)))] H := hP
  have hD : va_D A [(a0, .inr (3, [.ref a0_before, .int (3 : Int32)])), (a0_before, .inl (D.2 4, 4, .inr (.inr (.inr (.inr (zq4 (some a0_before_1) (some a0_before_2) (some a0_before_3) (some a0_before_0))))))), (a0_before_0, .inr (5, [.ref a0_before_0_rows, .int v0_before_0_size])), (a0_before_0_rows, .inl (D.2 2, 40, .inr (.inl g0_before_0_rows))), (a0_before_1, .inr (5, [.ref a0_before_1_rows, .int v0_before_1_size])), (a0_before_1_rows, .inl (D.2 2, 40, .inr (.inl g0_before_1_rows))), (a0_before_2, .inr (5, [.ref a0_before_2_rows, .int v0_before_2_size])), (a0_before_2_rows, .inl (D.2 2, 40, .inr (.inl g0_before_2_rows))), (a0_before_3, .inr (5, [.ref a0_before_3_rows, .int v0_before_3_size])), (a0_before_3_rows, .inl (D.2 2, 40, .inr (.inl g0_before_3_rows)))] := hD
  have hP := hP.sub (ws' := [(a0, .inr (3, [.ref a0_before, .int (3 : Int32)])), (a0_before, .inl (D.2 4, 4, .inr (.inr (.inr (.inr (zq4 (some a0_before_1) (some a0_before_2) (some a0_before_3) (some a0_before_0))))))), (a0_before_1, .inr (5, [.ref a0_before_1_rows, .int v0_before_1_size])), (a0_before_1_rows, .inl (D.2 2, 40, .inr (.inl g0_before_1_rows))), (a0_before_2, .inr (5, [.ref a0_before_2_rows, .int v0_before_2_size])), (a0_before_2_rows, .inl (D.2 2, 40, .inr (.inl g0_before_2_rows))), (a0_before_3, .inr (5, [.ref a0_before_3_rows, .int v0_before_3_size])), (a0_before_3_rows, .inl (D.2 2, 40, .inr (.inl g0_before_3_rows))), (a0_before_0, .inr (5, [.ref a0_before_0_rows, .int v0_before_0_size])), (a0_before_0_rows, .inl (D.2 2, 40, .inr (.inl g0_before_0_rows)))]) [0, 1, 4, 5, 6, 7, 8, 9, 2, 3] rfl
  have hD := hD.sub (ws' := [(a0, .inr (3, [.ref a0_before, .int (3 : Int32)])), (a0_before, .inl (D.2 4, 4, .inr (.inr (.inr (.inr (zq4 (some a0_before_1) (some a0_before_2) (some a0_before_3) (some a0_before_0))))))), (a0_before_1, .inr (5, [.ref a0_before_1_rows, .int v0_before_1_size])), (a0_before_1_rows, .inl (D.2 2, 40, .inr (.inl g0_before_1_rows))), (a0_before_2, .inr (5, [.ref a0_before_2_rows, .int v0_before_2_size])), (a0_before_2_rows, .inl (D.2 2, 40, .inr (.inl g0_before_2_rows))), (a0_before_3, .inr (5, [.ref a0_before_3_rows, .int v0_before_3_size])), (a0_before_3_rows, .inl (D.2 2, 40, .inr (.inl g0_before_3_rows))), (a0_before_0, .inr (5, [.ref a0_before_0_rows, .int v0_before_0_size])), (a0_before_0_rows, .inl (D.2 2, 40, .inr (.inl g0_before_0_rows)))]) [0, 1, 4, 5, 6, 7, 8, 9, 2, 3] (by decide) rfl
  have he := Option.some.inj hf
  rw [hQ]
  exact W.vret hx hb hr (fun t ht hW => by rw [← he]; exact ⟨⟨(), rfl, trivial, by rw [ht]; exact hP, hD⟩, hS.F ht⟩) hS.2.2 dX4_forgetOldest_46
def fX7_copy (n0_rows : Nat) (n1_rows : Nat) (v0_size : Int32) (g0_rows : Nat → Int64) (v1_size : Int32) (g1_rows : Nat → Int64) : Option (Int32 × (Nat → Int64)) :=
  if (0 : Int32) < 0 ∨ (0 : Int32) < 0 ∨ (if (Int32.ofNat n0_rows) < v1_size then (Int32.ofNat n0_rows) else v1_size) < 0 ∨ n1_rows < ((0 : Int32)).toNatClampNeg + ((if (Int32.ofNat n0_rows) < v1_size then (Int32.ofNat n0_rows) else v1_size)).toNatClampNeg ∨ n0_rows < ((0 : Int32)).toNatClampNeg + ((if (Int32.ofNat n0_rows) < v1_size then (Int32.ofNat n0_rows) else v1_size)).toNatClampNeg then none else
  some ((if (Int32.ofNat n0_rows) < v1_size then (Int32.ofNat n0_rows) else v1_size), (va_cpy g1_rows g0_rows ((0 : Int32)).toNatClampNeg ((0 : Int32)).toNatClampNeg ((if (Int32.ofNat n0_rows) < v1_size then (Int32.ofNat n0_rows) else v1_size)).toNatClampNeg))
set_option maxHeartbeats 4000000 in
set_option maxRecDepth 100000 in
theorem mX7_copy (l : Launch) (D : zG) (a0 : Nat) (a0_rows : Nat) (a1 : Nat) (a1_rows : Nat) (sz : Nat) (n0_rows : Nat) (n1_rows : Nat) (v0_size : Int32) (g0_rows : Nat → Int64) (v1_size : Int32) (g1_rows : Nat → Int64)  (res : Int32 × (Nat → Int64)) (hf : fX7_copy n0_rows n1_rows v0_size g0_rows v1_size g1_rows = some res) : Met l yX7_copy wsX7_copy ({ frames := 1, cells := 0, slots := 0, locals := 40 } : Room) (va_Pc [.ref a0, .ref a1] (zW D sz [(a0, .inr (5, [.ref a0_rows, .int v0_size])), (a0_rows, .inl (D.2 2, n0_rows, .inr (.inl g0_rows))), (a1, .inr (5, [.ref a1_rows, .int v1_size])), (a1_rows, .inl (D.2 2, n1_rows, .inr (.inl g1_rows)))])) (va_Qv (fun (_ : Unit) => True) (fun _ => zB D (va_A [(a0, .inr (5, [.ref a0_rows, .int v0_size])), (a0_rows, .inl (D.2 2, n0_rows, .inr (.inl g0_rows))), (a1, .inr (5, [.ref a1_rows, .int v1_size])), (a1_rows, .inl (D.2 2, n1_rows, .inr (.inl g1_rows)))] sz) [(a0, .inr (5, [.ref a0_rows, .int res.1])), (a0_rows, .inl (D.2 2, n0_rows, .inr (.inl res.2))), (a1, .inr (5, [.ref a1_rows, .int v1_size])), (a1_rows, .inl (D.2 2, n1_rows, .inr (.inl g1_rows)))]) (va_A [(a0, .inr (5, [.ref a0_rows, .int v0_size])), (a0_rows, .inl (D.2 2, n0_rows, .inr (.inl g0_rows))), (a1, .inr (5, [.ref a1_rows, .int v1_size])), (a1_rows, .inl (D.2 2, n1_rows, .inr (.inl g1_rows)))] sz)) 0 0 (va_A [(a0, .inr (5, [.ref a0_rows, .int v0_size])), (a0_rows, .inl (D.2 2, n0_rows, .inr (.inl g0_rows))), (a1, .inr (5, [.ref a1_rows, .int v1_size])), (a1_rows, .inl (D.2 2, n1_rows, .inr (.inl g1_rows)))] sz) := by
  refine Met.ofW (cc := cX7_copy) (maxL := 2) (ret := none) (by decide) rfl ?_
  intro p e s m args below meth c s₁ B hml hv
  obtain ⟨rfl, hsz, hP, hK, hD0⟩ := hv
  have hx := B.exec
  have hb := B.bytes
  have hr := B.returns
  have hts := atoms_spec (ws := wsX7_copy) B.pre
  have hown : s.vm.findClass RX7 = some m.cls := findClass_of_methodNamed B.named
  have hlocks := B.notSynchronized
  subst hsz
  have hD := hD0.self (sz := s.heap.size)
  generalize hAe : va_A [(a0, .inr (5, [.ref a0_rows, .int v0_size])), (a0_rows, .inl (D.2 2, n0_rows, .inr (.inl g0_rows))), (a1, .inr (5, [.ref a1_rows, .int v1_size])), (a1_rows, .inl (D.2 2, n1_rows, .inr (.inl g1_rows)))] s.heap.size = A at hD ⊢
  have hA : ∀ q : Nat, s.heap.size ≤ q → A q := fun q h => by rw [← hAe]; exact Or.inr h
  have l24 := zat hts 1 (w := .fieldLink RX7 24 "TurnedWords$Rising" "size" "I") rfl
  have l18 := zat hts 2 (w := .fieldLink RX7 18 "TurnedWords$Rising" "rows" "[J") rfl
  have l9 := zat hts 3 (w := .methodLink RX7 9 Lib.Math.min.name) rfl
  have hstmin := zat hts 4 (w := .static Lib.Math.min.name) rfl
  have hinM := zat hts 5 (w := .initialized "java/lang/Math") rfl
  have hcdmin := zat hts 6 (w := .code Lib.Math.min.name Lib.Math.min.code 2 (some .int)) rfl
  have l42 := zat hts 7 (w := .methodLink RX7 42 arraycopyName) rfl
  have hnatA := zat hts 8 (w := .native arraycopyName) rfl
  have hstA := zat hts 9 (w := .static arraycopyName) rfl
  have hinS := zat hts 10 (w := .initialized "java/lang/System") rfl
  have hwX7 : ∀ w ∈ u_ws RX7 TX7 2, w ∈ wsX7_copy := fun w h => List.mem_cons_of_mem _ (List.mem_append_right _ h)
  have hl := lv_entry ([.ref a0, .ref a1]) (n := 2) (Nat.le_of_ble_eq_true rfl)
  rw [lg_entry_eq]
  generalize (lg_sl ([.ref a0, .ref a1]) ++ List.replicate (2 - (lg_sl ([.ref a0, .ref a1])).length) Slot.unset).toArray = ls at hl ⊢
  have hl : lv_has ls 2 [(0, .ref a0), (1, .ref a1)] := hl
  refine zStart (A := A) hP (fun Q0 H locs hQ hP hS => ?_)
  unfold fX7_copy at hf
  refine lv_aload_n hx hb dX7_copy_0 rfl (lv_at hl 0 rfl) ?_
  refine lv_aload_n hx hb dX7_copy_1 rfl (lv_at hl 1 rfl) ?_
  refine va_get (D := D.1) (ci := 5) (v := .int v1_size) (C := RX7) (T := TX7) (N := 2) hx hb hts hwX7 hown hK.1 hP 2 rfl rfl 1 (by decide) l24 (fun _ h9 => h9) rfl dX7_copy_2 ?_
  refine lv_aload_n hx hb dX7_copy_5 rfl (lv_at hl 0 rfl) ?_
  refine va_get (D := D.1) (ci := 5) (v := .ref a0_rows) (C := RX7) (T := TX7) (N := 2) hx hb hts hwX7 hown hK.1 hP 0 rfl rfl 0 (by decide) l18 (fun _ h9 => h9) rfl dX7_copy_6 ?_
  refine va_alen hx hb hK.1 hP 1 2 rfl rfl (v := (Int32.ofNat n0_rows)) rfl dX7_copy_9 ?_
  refine va_mmin hx hb (hml.trans hl.1.symm) hown l9 hstmin hinM hcdmin (Nat.le_of_ble_eq_true rfl) (Nat.le_of_ble_eq_true rfl) (Nat.zero_le _) (Nat.zero_le _) dX7_copy_10 ?_
  refine va_put (D := D.1) (ci := 5) (v := .int (if (Int32.ofNat n0_rows) < v1_size then (Int32.ofNat n0_rows) else v1_size)) (ty := .int) (C := RX7) (T := TX7) (N := 2) hx hb hts hwX7 tyX7 tyX7_ok nmX7 hown hK.1 hP hD hS 0 rfl rfl 1 (by decide) l24 (fun _ h9 => h9) rfl (by decide +kernel) rfl rfl (Nat.le_of_ble_eq_true rfl) dX7_copy_13 (fun H locs hP hD hS => ?_)
  have hP : va_P D.1 vwCl [(a0, .inr (5, [.ref a0_rows, .int (if (Int32.ofNat n0_rows) < v1_size then (Int32.ofNat n0_rows) else v1_size)])), (a0_rows, .inl (D.2 2, n0_rows, .inr (.inl g0_rows))), (a1, .inr (5, [.ref a1_rows, .int v1_size])), (a1_rows, .inl (D.2 2, n1_rows, .inr (.inl g1_rows)))] H := hP
  have hD : va_D A [(a0, .inr (5, [.ref a0_rows, .int (if (Int32.ofNat n0_rows) < v1_size then (Int32.ofNat n0_rows) else v1_size)])), (a0_rows, .inl (D.2 2, n0_rows, .inr (.inl g0_rows))), (a1, .inr (5, [.ref a1_rows, .int v1_size])), (a1_rows, .inl (D.2 2, n1_rows, .inr (.inl g1_rows)))] := hD
  refine lv_aload_n hx hb dX7_copy_16 rfl (lv_at hl 1 rfl) ?_
  refine va_get (D := D.1) (ci := 5) (v := .ref a1_rows) (C := RX7) (T := TX7) (N := 2) hx hb hts hwX7 hown hK.1 hP 2 rfl rfl 0 (by decide) l18 (fun _ h9 => h9) rfl dX7_copy_17 ?_
  refine lv_iconst (v := 0) hx hb dX7_copy_20 (by decide) ?_
  refine lv_aload_n hx hb dX7_copy_21 rfl (lv_at hl 0 rfl) ?_
  refine va_get (D := D.1) (ci := 5) (v := .ref a0_rows) (C := RX7) (T := TX7) (N := 2) hx hb hts hwX7 hown hK.1 hP 0 rfl rfl 0 (by decide) l18 (fun _ h9 => h9) rfl dX7_copy_22 ?_
  refine lv_iconst (v := 0) hx hb dX7_copy_25 (by decide) ?_
  refine lv_aload_n hx hb dX7_copy_26 rfl (lv_at hl 0 rfl) ?_
  refine va_get (D := D.1) (ci := 5) (v := .int (if (Int32.ofNat n0_rows) < v1_size then (Int32.ofNat n0_rows) else v1_size)) (C := RX7) (T := TX7) (N := 2) hx hb hts hwX7 hown hK.1 hP 0 rfl rfl 1 (by decide) l24 (fun _ h9 => h9) rfl dX7_copy_27 ?_
  obtain ⟨h_1, hf⟩ := gd hf
  obtain ⟨h_2, h_3, h_4, h_5, h_6⟩ := zor5 h_1
  refine va_copyl hx hb (hml.trans hl.1.symm) hown l42 hnatA hstA hinS hK.1 hP hD hS 3 1 2 2 (ty := .long) rfl rfl rfl rfl rfl h_2 h_3 h_4 (Nat.not_lt.mp h_5) (Nat.not_lt.mp h_6) (fun _ _ => rfl) (Nat.le_of_ble_eq_true rfl) (Nat.le_of_ble_eq_true rfl) dX7_copy_30 (fun H locs hP hD hS => ?_)
  have hP : va_P D.1 vwCl [(a0, .inr (5, [.ref a0_rows, .int (if (Int32.ofNat n0_rows) < v1_size then (Int32.ofNat n0_rows) else v1_size)])), (a0_rows, .inl (D.2 2, n0_rows, .inr (.inl (va_cpy g1_rows g0_rows ((0 : Int32)).toNatClampNeg ((0 : Int32)).toNatClampNeg ((if (Int32.ofNat n0_rows) < v1_size then (Int32.ofNat n0_rows) else v1_size)).toNatClampNeg)))), (a1, .inr (5, [.ref a1_rows, .int v1_size])), (a1_rows, .inl (D.2 2, n1_rows, .inr (.inl g1_rows)))] H := hP
  have hD : va_D A [(a0, .inr (5, [.ref a0_rows, .int (if (Int32.ofNat n0_rows) < v1_size then (Int32.ofNat n0_rows) else v1_size)])), (a0_rows, .inl (D.2 2, n0_rows, .inr (.inl (va_cpy g1_rows g0_rows ((0 : Int32)).toNatClampNeg ((0 : Int32)).toNatClampNeg ((if (Int32.ofNat n0_rows) < v1_size then (Int32.ofNat n0_rows) else v1_size)).toNatClampNeg)))), (a1, .inr (5, [.ref a1_rows, .int v1_size])), (a1_rows, .inl (D.2 2, n1_rows, .inr (.inl g1_rows)))] := hD
  have he := Option.some.inj hf
  rw [hQ]
  exact W.vret hx hb hr (fun t ht hW => by rw [← he]; exact ⟨⟨(), rfl, trivial, by rw [ht]; exact hP, hD⟩, hS.F ht⟩) hS.2.2 dX7_copy_33
def fX4_keep_0 (n1_rows : Nat) (v0_before_0_size : Int32) (g0_before_0_rows : Nat → Int64) (v1_size : Int32) (g1_rows : Nat → Int64) : Option (Int32 × Int32 × (Nat → Int64)) :=
  Option.bind (fX7_copy 40 n1_rows v0_before_0_size g0_before_0_rows v1_size g1_rows) fun r2 =>
  some (((0 : Int32) + (1 : Int32)), r2.1, r2.2)
set_option maxHeartbeats 4000000 in
set_option maxRecDepth 100000 in
theorem mX4_keep_0 (l : Launch) (D : zG) (a0 : Nat) (a0_before : Nat) (a0_before_0 : Nat) (a0_before_1 : Nat) (a0_before_2 : Nat) (a0_before_3 : Nat) (a0_before_0_rows : Nat) (a1 : Nat) (a1_rows : Nat) (sz : Nat) (n1_rows : Nat) (v0_before_0_size : Int32) (g0_before_0_rows : Nat → Int64) (v1_size : Int32) (g1_rows : Nat → Int64)  (res : Int32 × Int32 × (Nat → Int64)) (hf : fX4_keep_0 n1_rows v0_before_0_size g0_before_0_rows v1_size g1_rows = some res) : Met l yX4_keep wsX4_keep ({ frames := 2, cells := 0, slots := 0, locals := 61 } : Room) (va_Pc [.ref a0, .ref a1] (zW D sz [(a0, .inr (3, [.ref a0_before, .int (0 : Int32)])), (a0_before, .inl (D.2 4, 4, .inr (.inr (.inr (.inr (zq4 (some a0_before_0) (some a0_before_1) (some a0_before_2) (some a0_before_3))))))), (a0_before_0, .inr (5, [.ref a0_before_0_rows, .int v0_before_0_size])), (a0_before_0_rows, .inl (D.2 2, 40, .inr (.inl g0_before_0_rows))), (a1, .inr (5, [.ref a1_rows, .int v1_size])), (a1_rows, .inl (D.2 2, n1_rows, .inr (.inl g1_rows)))])) (va_Qv (fun (_ : Unit) => True) (fun _ => zB D (va_A [(a0, .inr (3, [.ref a0_before, .int (0 : Int32)])), (a0_before, .inl (D.2 4, 4, .inr (.inr (.inr (.inr (zq4 (some a0_before_0) (some a0_before_1) (some a0_before_2) (some a0_before_3))))))), (a0_before_0, .inr (5, [.ref a0_before_0_rows, .int v0_before_0_size])), (a0_before_0_rows, .inl (D.2 2, 40, .inr (.inl g0_before_0_rows))), (a1, .inr (5, [.ref a1_rows, .int v1_size])), (a1_rows, .inl (D.2 2, n1_rows, .inr (.inl g1_rows)))] sz) [(a0, .inr (3, [.ref a0_before, .int res.1])), (a0_before, .inl (D.2 4, 4, .inr (.inr (.inr (.inr (zq4 (some a0_before_0) (some a0_before_1) (some a0_before_2) (some a0_before_3))))))), (a0_before_0, .inr (5, [.ref a0_before_0_rows, .int res.2.1])), (a0_before_0_rows, .inl (D.2 2, 40, .inr (.inl res.2.2))), (a1, .inr (5, [.ref a1_rows, .int v1_size])), (a1_rows, .inl (D.2 2, n1_rows, .inr (.inl g1_rows)))]) (va_A [(a0, .inr (3, [.ref a0_before, .int (0 : Int32)])), (a0_before, .inl (D.2 4, 4, .inr (.inr (.inr (.inr (zq4 (some a0_before_0) (some a0_before_1) (some a0_before_2) (some a0_before_3))))))), (a0_before_0, .inr (5, [.ref a0_before_0_rows, .int v0_before_0_size])), (a0_before_0_rows, .inl (D.2 2, 40, .inr (.inl g0_before_0_rows))), (a1, .inr (5, [.ref a1_rows, .int v1_size])), (a1_rows, .inl (D.2 2, n1_rows, .inr (.inl g1_rows)))] sz)) 0 0 (va_A [(a0, .inr (3, [.ref a0_before, .int (0 : Int32)])), (a0_before, .inl (D.2 4, 4, .inr (.inr (.inr (.inr (zq4 (some a0_before_0) (some a0_before_1) (some a0_before_2) (some a0_before_3))))))), (a0_before_0, .inr (5, [.ref a0_before_0_rows, .int v0_before_0_size])), (a0_before_0_rows, .inl (D.2 2, 40, .inr (.inl g0_before_0_rows))), (a1, .inr (5, [.ref a1_rows, .int v1_size])), (a1_rows, .inl (D.2 2, n1_rows, .inr (.inl g1_rows)))] sz) := by
  refine Met.ofW (cc := cX4_keep) (maxL := 2) (ret := none) (by decide) rfl ?_
  intro p e s m args below meth c s₁ B hml hv
  obtain ⟨rfl, hsz, hP, hK, hD0⟩ := hv
  have hx := B.exec
  have hb := B.bytes
  have hr := B.returns
  have hts := atoms_spec (ws := wsX4_keep) B.pre
  have hown : s.vm.findClass RX4 = some m.cls := findClass_of_methodNamed B.named
  have hlocks := B.notSynchronized
  subst hsz
  have hD := hD0.self (sz := s.heap.size)
  generalize hAe : va_A [(a0, .inr (3, [.ref a0_before, .int (0 : Int32)])), (a0_before, .inl (D.2 4, 4, .inr (.inr (.inr (.inr (zq4 (some a0_before_0) (some a0_before_1) (some a0_before_2) (some a0_before_3))))))), (a0_before_0, .inr (5, [.ref a0_before_0_rows, .int v0_before_0_size])), (a0_before_0_rows, .inl (D.2 2, 40, .inr (.inl g0_before_0_rows))), (a1, .inr (5, [.ref a1_rows, .int v1_size])), (a1_rows, .inl (D.2 2, n1_rows, .inr (.inl g1_rows)))] s.heap.size = A at hD ⊢
  have hA : ∀ q : Nat, s.heap.size ≤ q → A q := fun q h => by rw [← hAe]; exact Or.inr h
  have l20 := zat hts 1 (w := .fieldLink RX4 20 "TurnedWords$Merges" "size" "I") rfl
  have l11 := zat hts 2 (w := .fieldLink RX4 11 "TurnedWords$Merges" "before" "[LTurnedWords$Rising;") rfl
  have hwX4 : ∀ w ∈ u_ws RX4 TX4 2, w ∈ wsX4_keep := fun w h => List.mem_cons_of_mem _ (List.mem_append_left _ (List.mem_append_right _ h))
  have hl := lv_entry ([.ref a0, .ref a1]) (n := 2) (Nat.le_of_ble_eq_true rfl)
  rw [lg_entry_eq]
  generalize (lg_sl ([.ref a0, .ref a1]) ++ List.replicate (2 - (lg_sl ([.ref a0, .ref a1])).length) Slot.unset).toArray = ls at hl ⊢
  have hl : lv_has ls 2 [(0, .ref a0), (1, .ref a1)] := hl
  refine zStart (A := A) hP (fun Q0 H locs hQ hP hS => ?_)
  unfold fX4_keep_0 at hf
  refine lv_aload_n hx hb dX4_keep_0 rfl (lv_at hl 0 rfl) ?_
  refine va_get (D := D.1) (ci := 3) (v := .int (0 : Int32)) (C := RX4) (T := TX4) (N := 2) hx hb hts hwX4 hown hK.1 hP 0 rfl rfl 1 (by decide) l20 (fun _ h9 => h9) rfl dX4_keep_1 ?_
  refine lv_iconst (v := 4) hx hb dX4_keep_4 (by decide) ?_
  refine lv_icmp_lt (tgt := 12) hx hb dX4_keep_5 (by decide) (fun _ => ?_) (fun c_1 => absurd (by decide) c_1)
  refine lv_aload_n hx hb dX4_keep_12 rfl (lv_at hl 0 rfl) ?_
  refine va_get (D := D.1) (ci := 3) (v := .ref a0_before) (C := RX4) (T := TX4) (N := 2) hx hb hts hwX4 hown hK.1 hP 0 rfl rfl 0 (by decide) l11 (fun _ h9 => h9) rfl dX4_keep_13 ?_
  refine lv_aload_n hx hb dX4_keep_16 rfl (lv_at hl 0 rfl) ?_
  refine va_get (D := D.1) (ci := 3) (v := .int (0 : Int32)) (C := RX4) (T := TX4) (N := 2) hx hb hts hwX4 hown hK.1 hP 0 rfl rfl 1 (by decide) l20 (fun _ h9 => h9) rfl dX4_keep_17 ?_
  refine va_aldq hx hb hK.1 hP 1 4 rfl rfl (show ¬ ((0 : Int32) < 0 ∨ 4 ≤ ((0 : Int32)).toNatClampNeg) by decide) dX4_keep_20 ?_
  refine W.eq (g2 := F0 m 21 ls [.ref a0_before_0]) rfl ?_
  refine lv_aload_n hx hb dX4_keep_21 rfl (lv_at hl 1 rfl) ?_
  obtain ⟨r2, hr2, hf⟩ := bd hf
  refine zVv (As := [.ref a1]) (rest := []) (ci := 5) (q0 := 0) (wn := [(a0, .inr (3, [.ref a0_before, .int (0 : Int32)])), (a0_before, .inl (D.2 4, 4, .inr (.inr (.inr (.inr (zq4 (some a0_before_0) (some a0_before_1) (some a0_before_2) (some a0_before_3))))))), (a0_before_0, .inr (5, [.ref a0_before_0_rows, .int r2.1])), (a0_before_0_rows, .inl (D.2 2, 40, .inr (.inl r2.2))), (a1, .inr (5, [.ref a1_rows, .int v1_size])), (a1_rows, .inl (D.2 2, n1_rows, .inr (.inl g1_rows)))]) ⟨hx, hb, hml, hown, hts⟩ (mX7_copy l D a0_before_0 a0_before_0_rows a1 a1_rows H.size 40 n1_rows v0_before_0_size g0_before_0_rows v1_size g1_rows r2 hr2) (cwV 1 hts gX4_keep_X7_copy rfl rfl rfl (by decide +kernel) ⟨Nat.le_of_ble_eq_true rfl, Nat.le_of_ble_eq_true rfl⟩) hK hP hD hS hA [2, 3, 4, 5] [0, 1] [0, 1, 2, 3, 4, 5] rfl (by decide) rfl (by decide) (by decide) rfl (by decide) rfl rfl rfl hl.1 rfl (Nat.le_of_ble_eq_true rfl) dX4_keep_22 ⟨Nat.zero_le _, Nat.zero_le _⟩ (fun H locs hP hD hS => ?_)
  refine lv_aload_n hx hb dX4_keep_25 rfl (lv_at hl 0 rfl) ?_
  refine lv_dup hx hb dX4_keep_26 rfl ?_
  refine va_get (D := D.1) (ci := 3) (v := .int (0 : Int32)) (C := RX4) (T := TX4) (N := 2) hx hb hts hwX4 hown hK.1 hP 0 rfl rfl 1 (by decide) l20 (fun _ h9 => h9) rfl dX4_keep_27 ?_
  refine lv_iconst (v := 1) hx hb dX4_keep_30 (by decide) ?_
  refine lv_iadd hx hb dX4_keep_31 ?_
  refine va_put (D := D.1) (ci := 3) (v := .int ((0 : Int32) + (1 : Int32))) (ty := .int) (C := RX4) (T := TX4) (N := 2) hx hb hts hwX4 tyX4 tyX4_ok nmX4 hown hK.1 hP hD hS 0 rfl rfl 1 (by decide) l20 (fun _ h9 => h9) rfl (by decide +kernel) rfl rfl (Nat.le_of_ble_eq_true rfl) dX4_keep_32 (fun H locs hP hD hS => ?_)
  have hP : va_P D.1 vwCl [(a0, .inr (3, [.ref a0_before, .int ((0 : Int32) + (1 : Int32))])), (a0_before, .inl (D.2 4, 4, .inr (.inr (.inr (.inr (zq4 (some a0_before_0) (some a0_before_1) (some a0_before_2) (some a0_before_3))))))), (a0_before_0, .inr (5, [.ref a0_before_0_rows, .int r2.1])), (a0_before_0_rows, .inl (D.2 2, 40, .inr (.inl r2.2))), (a1, .inr (5, [.ref a1_rows, .int v1_size])), (a1_rows, .inl (D.2 2, n1_rows, .inr (.inl g1_rows)))] H := hP
  have hD : va_D A [(a0, .inr (3, [.ref a0_before, .int ((0 : Int32) + (1 : Int32))])), (a0_before, .inl (D.2 4, 4, .inr (.inr (.inr (.inr (zq4 (some a0_before_0) (some a0_before_1) (some a0_before_2) (some a0_before_3))))))), (a0_before_0, .inr (5, [.ref a0_before_0_rows, .int r2.1])), (a0_before_0_rows, .inl (D.2 2, 40, .inr (.inl r2.2))), (a1, .inr (5, [.ref a1_rows, .int v1_size])), (a1_rows, .inl (D.2 2, n1_rows, .inr (.inl g1_rows)))] := hD
  have he := Option.some.inj hf
  rw [hQ]
  exact W.vret hx hb hr (fun t ht hW => by rw [← he]; exact ⟨⟨(), rfl, trivial, by rw [ht]; exact hP, hD⟩, hS.F ht⟩) hS.2.2 dX4_keep_35
def fX4_keep_1 (n1_rows : Nat) (v0_before_1_size : Int32) (g0_before_1_rows : Nat → Int64) (v1_size : Int32) (g1_rows : Nat → Int64) : Option (Int32 × Int32 × (Nat → Int64)) :=
  Option.bind (fX7_copy 40 n1_rows v0_before_1_size g0_before_1_rows v1_size g1_rows) fun r2 =>
  some (((1 : Int32) + (1 : Int32)), r2.1, r2.2)
set_option maxHeartbeats 4000000 in
set_option maxRecDepth 100000 in
theorem mX4_keep_1 (l : Launch) (D : zG) (a0 : Nat) (a0_before : Nat) (a0_before_0 : Nat) (a0_before_1 : Nat) (a0_before_2 : Nat) (a0_before_3 : Nat) (a0_before_1_rows : Nat) (a1 : Nat) (a1_rows : Nat) (sz : Nat) (n1_rows : Nat) (v0_before_1_size : Int32) (g0_before_1_rows : Nat → Int64) (v1_size : Int32) (g1_rows : Nat → Int64)  (res : Int32 × Int32 × (Nat → Int64)) (hf : fX4_keep_1 n1_rows v0_before_1_size g0_before_1_rows v1_size g1_rows = some res) : Met l yX4_keep wsX4_keep ({ frames := 2, cells := 0, slots := 0, locals := 61 } : Room) (va_Pc [.ref a0, .ref a1] (zW D sz [(a0, .inr (3, [.ref a0_before, .int (1 : Int32)])), (a0_before, .inl (D.2 4, 4, .inr (.inr (.inr (.inr (zq4 (some a0_before_0) (some a0_before_1) (some a0_before_2) (some a0_before_3))))))), (a0_before_1, .inr (5, [.ref a0_before_1_rows, .int v0_before_1_size])), (a0_before_1_rows, .inl (D.2 2, 40, .inr (.inl g0_before_1_rows))), (a1, .inr (5, [.ref a1_rows, .int v1_size])), (a1_rows, .inl (D.2 2, n1_rows, .inr (.inl g1_rows)))])) (va_Qv (fun (_ : Unit) => True) (fun _ => zB D (va_A [(a0, .inr (3, [.ref a0_before, .int (1 : Int32)])), (a0_before, .inl (D.2 4, 4, .inr (.inr (.inr (.inr (zq4 (some a0_before_0) (some a0_before_1) (some a0_before_2) (some a0_before_3))))))), (a0_before_1, .inr (5, [.ref a0_before_1_rows, .int v0_before_1_size])), (a0_before_1_rows, .inl (D.2 2, 40, .inr (.inl g0_before_1_rows))), (a1, .inr (5, [.ref a1_rows, .int v1_size])), (a1_rows, .inl (D.2 2, n1_rows, .inr (.inl g1_rows)))] sz) [(a0, .inr (3, [.ref a0_before, .int res.1])), (a0_before, .inl (D.2 4, 4, .inr (.inr (.inr (.inr (zq4 (some a0_before_0) (some a0_before_1) (some a0_before_2) (some a0_before_3))))))), (a0_before_1, .inr (5, [.ref a0_before_1_rows, .int res.2.1])), (a0_before_1_rows, .inl (D.2 2, 40, .inr (.inl res.2.2))), (a1, .inr (5, [.ref a1_rows, .int v1_size])), (a1_rows, .inl (D.2 2, n1_rows, .inr (.inl g1_rows)))]) (va_A [(a0, .inr (3, [.ref a0_before, .int (1 : Int32)])), (a0_before, .inl (D.2 4, 4, .inr (.inr (.inr (.inr (zq4 (some a0_before_0) (some a0_before_1) (some a0_before_2) (some a0_before_3))))))), (a0_before_1, .inr (5, [.ref a0_before_1_rows, .int v0_before_1_size])), (a0_before_1_rows, .inl (D.2 2, 40, .inr (.inl g0_before_1_rows))), (a1, .inr (5, [.ref a1_rows, .int v1_size])), (a1_rows, .inl (D.2 2, n1_rows, .inr (.inl g1_rows)))] sz)) 0 0 (va_A [(a0, .inr (3, [.ref a0_before, .int (1 : Int32)])), (a0_before, .inl (D.2 4, 4, .inr (.inr (.inr (.inr (zq4 (some a0_before_0) (some a0_before_1) (some a0_before_2) (some a0_before_3))))))), (a0_before_1, .inr (5, [.ref a0_before_1_rows, .int v0_before_1_size])), (a0_before_1_rows, .inl (D.2 2, 40, .inr (.inl g0_before_1_rows))), (a1, .inr (5, [.ref a1_rows, .int v1_size])), (a1_rows, .inl (D.2 2, n1_rows, .inr (.inl g1_rows)))] sz) := by
  refine Met.ofW (cc := cX4_keep) (maxL := 2) (ret := none) (by decide) rfl ?_
  intro p e s m args below meth c s₁ B hml hv
  obtain ⟨rfl, hsz, hP, hK, hD0⟩ := hv
  have hx := B.exec
  have hb := B.bytes
  have hr := B.returns
  have hts := atoms_spec (ws := wsX4_keep) B.pre
  have hown : s.vm.findClass RX4 = some m.cls := findClass_of_methodNamed B.named
  have hlocks := B.notSynchronized
  subst hsz
  have hD := hD0.self (sz := s.heap.size)
  generalize hAe : va_A [(a0, .inr (3, [.ref a0_before, .int (1 : Int32)])), (a0_before, .inl (D.2 4, 4, .inr (.inr (.inr (.inr (zq4 (some a0_before_0) (some a0_before_1) (some a0_before_2) (some a0_before_3))))))), (a0_before_1, .inr (5, [.ref a0_before_1_rows, .int v0_before_1_size])), (a0_before_1_rows, .inl (D.2 2, 40, .inr (.inl g0_before_1_rows))), (a1, .inr (5, [.ref a1_rows, .int v1_size])), (a1_rows, .inl (D.2 2, n1_rows, .inr (.inl g1_rows)))] s.heap.size = A at hD ⊢
  have hA : ∀ q : Nat, s.heap.size ≤ q → A q := fun q h => by rw [← hAe]; exact Or.inr h
  have l20 := zat hts 1 (w := .fieldLink RX4 20 "TurnedWords$Merges" "size" "I") rfl
  have l11 := zat hts 2 (w := .fieldLink RX4 11 "TurnedWords$Merges" "before" "[LTurnedWords$Rising;") rfl
  have hwX4 : ∀ w ∈ u_ws RX4 TX4 2, w ∈ wsX4_keep := fun w h => List.mem_cons_of_mem _ (List.mem_append_left _ (List.mem_append_right _ h))
  have hl := lv_entry ([.ref a0, .ref a1]) (n := 2) (Nat.le_of_ble_eq_true rfl)
  rw [lg_entry_eq]
  generalize (lg_sl ([.ref a0, .ref a1]) ++ List.replicate (2 - (lg_sl ([.ref a0, .ref a1])).length) Slot.unset).toArray = ls at hl ⊢
  have hl : lv_has ls 2 [(0, .ref a0), (1, .ref a1)] := hl
  refine zStart (A := A) hP (fun Q0 H locs hQ hP hS => ?_)
  unfold fX4_keep_1 at hf
  refine lv_aload_n hx hb dX4_keep_0 rfl (lv_at hl 0 rfl) ?_
  refine va_get (D := D.1) (ci := 3) (v := .int (1 : Int32)) (C := RX4) (T := TX4) (N := 2) hx hb hts hwX4 hown hK.1 hP 0 rfl rfl 1 (by decide) l20 (fun _ h9 => h9) rfl dX4_keep_1 ?_
  refine lv_iconst (v := 4) hx hb dX4_keep_4 (by decide) ?_
  refine lv_icmp_lt (tgt := 12) hx hb dX4_keep_5 (by decide) (fun _ => ?_) (fun c_1 => absurd (by decide) c_1)
  refine lv_aload_n hx hb dX4_keep_12 rfl (lv_at hl 0 rfl) ?_
  refine va_get (D := D.1) (ci := 3) (v := .ref a0_before) (C := RX4) (T := TX4) (N := 2) hx hb hts hwX4 hown hK.1 hP 0 rfl rfl 0 (by decide) l11 (fun _ h9 => h9) rfl dX4_keep_13 ?_
  refine lv_aload_n hx hb dX4_keep_16 rfl (lv_at hl 0 rfl) ?_
  refine va_get (D := D.1) (ci := 3) (v := .int (1 : Int32)) (C := RX4) (T := TX4) (N := 2) hx hb hts hwX4 hown hK.1 hP 0 rfl rfl 1 (by decide) l20 (fun _ h9 => h9) rfl dX4_keep_17 ?_
  refine va_aldq hx hb hK.1 hP 1 4 rfl rfl (show ¬ ((1 : Int32) < 0 ∨ 4 ≤ ((1 : Int32)).toNatClampNeg) by decide) dX4_keep_20 ?_
  refine W.eq (g2 := F0 m 21 ls [.ref a0_before_1]) rfl ?_
  refine lv_aload_n hx hb dX4_keep_21 rfl (lv_at hl 1 rfl) ?_
  obtain ⟨r2, hr2, hf⟩ := bd hf
  refine zVv (As := [.ref a1]) (rest := []) (ci := 5) (q0 := 0) (wn := [(a0, .inr (3, [.ref a0_before, .int (1 : Int32)])), (a0_before, .inl (D.2 4, 4, .inr (.inr (.inr (.inr (zq4 (some a0_before_0) (some a0_before_1) (some a0_before_2) (some a0_before_3))))))), (a0_before_1, .inr (5, [.ref a0_before_1_rows, .int r2.1])), (a0_before_1_rows, .inl (D.2 2, 40, .inr (.inl r2.2))), (a1, .inr (5, [.ref a1_rows, .int v1_size])), (a1_rows, .inl (D.2 2, n1_rows, .inr (.inl g1_rows)))]) ⟨hx, hb, hml, hown, hts⟩ (mX7_copy l D a0_before_1 a0_before_1_rows a1 a1_rows H.size 40 n1_rows v0_before_1_size g0_before_1_rows v1_size g1_rows r2 hr2) (cwV 1 hts gX4_keep_X7_copy rfl rfl rfl (by decide +kernel) ⟨Nat.le_of_ble_eq_true rfl, Nat.le_of_ble_eq_true rfl⟩) hK hP hD hS hA [2, 3, 4, 5] [0, 1] [0, 1, 2, 3, 4, 5] rfl (by decide) rfl (by decide) (by decide) rfl (by decide) rfl rfl rfl hl.1 rfl (Nat.le_of_ble_eq_true rfl) dX4_keep_22 ⟨Nat.zero_le _, Nat.zero_le _⟩ (fun H locs hP hD hS => ?_)
  refine lv_aload_n hx hb dX4_keep_25 rfl (lv_at hl 0 rfl) ?_
  refine lv_dup hx hb dX4_keep_26 rfl ?_
  refine va_get (D := D.1) (ci := 3) (v := .int (1 : Int32)) (C := RX4) (T := TX4) (N := 2) hx hb hts hwX4 hown hK.1 hP 0 rfl rfl 1 (by decide) l20 (fun _ h9 => h9) rfl dX4_keep_27 ?_
  refine lv_iconst (v := 1) hx hb dX4_keep_30 (by decide) ?_
  refine lv_iadd hx hb dX4_keep_31 ?_
  refine va_put (D := D.1) (ci := 3) (v := .int ((1 : Int32) + (1 : Int32))) (ty := .int) (C := RX4) (T := TX4) (N := 2) hx hb hts hwX4 tyX4 tyX4_ok nmX4 hown hK.1 hP hD hS 0 rfl rfl 1 (by decide) l20 (fun _ h9 => h9) rfl (by decide +kernel) rfl rfl (Nat.le_of_ble_eq_true rfl) dX4_keep_32 (fun H locs hP hD hS => ?_)
  have hP : va_P D.1 vwCl [(a0, .inr (3, [.ref a0_before, .int ((1 : Int32) + (1 : Int32))])), (a0_before, .inl (D.2 4, 4, .inr (.inr (.inr (.inr (zq4 (some a0_before_0) (some a0_before_1) (some a0_before_2) (some a0_before_3))))))), (a0_before_1, .inr (5, [.ref a0_before_1_rows, .int r2.1])), (a0_before_1_rows, .inl (D.2 2, 40, .inr (.inl r2.2))), (a1, .inr (5, [.ref a1_rows, .int v1_size])), (a1_rows, .inl (D.2 2, n1_rows, .inr (.inl g1_rows)))] H := hP
  have hD : va_D A [(a0, .inr (3, [.ref a0_before, .int ((1 : Int32) + (1 : Int32))])), (a0_before, .inl (D.2 4, 4, .inr (.inr (.inr (.inr (zq4 (some a0_before_0) (some a0_before_1) (some a0_before_2) (some a0_before_3))))))), (a0_before_1, .inr (5, [.ref a0_before_1_rows, .int r2.1])), (a0_before_1_rows, .inl (D.2 2, 40, .inr (.inl r2.2))), (a1, .inr (5, [.ref a1_rows, .int v1_size])), (a1_rows, .inl (D.2 2, n1_rows, .inr (.inl g1_rows)))] := hD
  have he := Option.some.inj hf
  rw [hQ]
  exact W.vret hx hb hr (fun t ht hW => by rw [← he]; exact ⟨⟨(), rfl, trivial, by rw [ht]; exact hP, hD⟩, hS.F ht⟩) hS.2.2 dX4_keep_35
def fX4_keep_2 (n1_rows : Nat) (v0_before_2_size : Int32) (g0_before_2_rows : Nat → Int64) (v1_size : Int32) (g1_rows : Nat → Int64) : Option (Int32 × Int32 × (Nat → Int64)) :=
  Option.bind (fX7_copy 40 n1_rows v0_before_2_size g0_before_2_rows v1_size g1_rows) fun r2 =>
  some (((2 : Int32) + (1 : Int32)), r2.1, r2.2)
set_option maxHeartbeats 4000000 in
set_option maxRecDepth 100000 in
theorem mX4_keep_2 (l : Launch) (D : zG) (a0 : Nat) (a0_before : Nat) (a0_before_0 : Nat) (a0_before_1 : Nat) (a0_before_2 : Nat) (a0_before_3 : Nat) (a0_before_2_rows : Nat) (a1 : Nat) (a1_rows : Nat) (sz : Nat) (n1_rows : Nat) (v0_before_2_size : Int32) (g0_before_2_rows : Nat → Int64) (v1_size : Int32) (g1_rows : Nat → Int64)  (res : Int32 × Int32 × (Nat → Int64)) (hf : fX4_keep_2 n1_rows v0_before_2_size g0_before_2_rows v1_size g1_rows = some res) : Met l yX4_keep wsX4_keep ({ frames := 2, cells := 0, slots := 0, locals := 61 } : Room) (va_Pc [.ref a0, .ref a1] (zW D sz [(a0, .inr (3, [.ref a0_before, .int (2 : Int32)])), (a0_before, .inl (D.2 4, 4, .inr (.inr (.inr (.inr (zq4 (some a0_before_0) (some a0_before_1) (some a0_before_2) (some a0_before_3))))))), (a0_before_2, .inr (5, [.ref a0_before_2_rows, .int v0_before_2_size])), (a0_before_2_rows, .inl (D.2 2, 40, .inr (.inl g0_before_2_rows))), (a1, .inr (5, [.ref a1_rows, .int v1_size])), (a1_rows, .inl (D.2 2, n1_rows, .inr (.inl g1_rows)))])) (va_Qv (fun (_ : Unit) => True) (fun _ => zB D (va_A [(a0, .inr (3, [.ref a0_before, .int (2 : Int32)])), (a0_before, .inl (D.2 4, 4, .inr (.inr (.inr (.inr (zq4 (some a0_before_0) (some a0_before_1) (some a0_before_2) (some a0_before_3))))))), (a0_before_2, .inr (5, [.ref a0_before_2_rows, .int v0_before_2_size])), (a0_before_2_rows, .inl (D.2 2, 40, .inr (.inl g0_before_2_rows))), (a1, .inr (5, [.ref a1_rows, .int v1_size])), (a1_rows, .inl (D.2 2, n1_rows, .inr (.inl g1_rows)))] sz) [(a0, .inr (3, [.ref a0_before, .int res.1])), (a0_before, .inl (D.2 4, 4, .inr (.inr (.inr (.inr (zq4 (some a0_before_0) (some a0_before_1) (some a0_before_2) (some a0_before_3))))))), (a0_before_2, .inr (5, [.ref a0_before_2_rows, .int res.2.1])), (a0_before_2_rows, .inl (D.2 2, 40, .inr (.inl res.2.2))), (a1, .inr (5, [.ref a1_rows, .int v1_size])), (a1_rows, .inl (D.2 2, n1_rows, .inr (.inl g1_rows)))]) (va_A [(a0, .inr (3, [.ref a0_before, .int (2 : Int32)])), (a0_before, .inl (D.2 4, 4, .inr (.inr (.inr (.inr (zq4 (some a0_before_0) (some a0_before_1) (some a0_before_2) (some a0_before_3))))))), (a0_before_2, .inr (5, [.ref a0_before_2_rows, .int v0_before_2_size])), (a0_before_2_rows, .inl (D.2 2, 40, .inr (.inl g0_before_2_rows))), (a1, .inr (5, [.ref a1_rows, .int v1_size])), (a1_rows, .inl (D.2 2, n1_rows, .inr (.inl g1_rows)))] sz)) 0 0 (va_A [(a0, .inr (3, [.ref a0_before, .int (2 : Int32)])), (a0_before, .inl (D.2 4, 4, .inr (.inr (.inr (.inr (zq4 (some a0_before_0) (some a0_before_1) (some a0_before_2) (some a0_before_3))))))), (a0_before_2, .inr (5, [.ref a0_before_2_rows, .int v0_before_2_size])), (a0_before_2_rows, .inl (D.2 2, 40, .inr (.inl g0_before_2_rows))), (a1, .inr (5, [.ref a1_rows, .int v1_size])), (a1_rows, .inl (D.2 2, n1_rows, .inr (.inl g1_rows)))] sz) := by
  refine Met.ofW (cc := cX4_keep) (maxL := 2) (ret := none) (by decide) rfl ?_
  intro p e s m args below meth c s₁ B hml hv
  obtain ⟨rfl, hsz, hP, hK, hD0⟩ := hv
  have hx := B.exec
  have hb := B.bytes
  have hr := B.returns
  have hts := atoms_spec (ws := wsX4_keep) B.pre
  have hown : s.vm.findClass RX4 = some m.cls := findClass_of_methodNamed B.named
  have hlocks := B.notSynchronized
  subst hsz
  have hD := hD0.self (sz := s.heap.size)
  generalize hAe : va_A [(a0, .inr (3, [.ref a0_before, .int (2 : Int32)])), (a0_before, .inl (D.2 4, 4, .inr (.inr (.inr (.inr (zq4 (some a0_before_0) (some a0_before_1) (some a0_before_2) (some a0_before_3))))))), (a0_before_2, .inr (5, [.ref a0_before_2_rows, .int v0_before_2_size])), (a0_before_2_rows, .inl (D.2 2, 40, .inr (.inl g0_before_2_rows))), (a1, .inr (5, [.ref a1_rows, .int v1_size])), (a1_rows, .inl (D.2 2, n1_rows, .inr (.inl g1_rows)))] s.heap.size = A at hD ⊢
  have hA : ∀ q : Nat, s.heap.size ≤ q → A q := fun q h => by rw [← hAe]; exact Or.inr h
  have l20 := zat hts 1 (w := .fieldLink RX4 20 "TurnedWords$Merges" "size" "I") rfl
  have l11 := zat hts 2 (w := .fieldLink RX4 11 "TurnedWords$Merges" "before" "[LTurnedWords$Rising;") rfl
  have hwX4 : ∀ w ∈ u_ws RX4 TX4 2, w ∈ wsX4_keep := fun w h => List.mem_cons_of_mem _ (List.mem_append_left _ (List.mem_append_right _ h))
  have hl := lv_entry ([.ref a0, .ref a1]) (n := 2) (Nat.le_of_ble_eq_true rfl)
  rw [lg_entry_eq]
  generalize (lg_sl ([.ref a0, .ref a1]) ++ List.replicate (2 - (lg_sl ([.ref a0, .ref a1])).length) Slot.unset).toArray = ls at hl ⊢
  have hl : lv_has ls 2 [(0, .ref a0), (1, .ref a1)] := hl
  refine zStart (A := A) hP (fun Q0 H locs hQ hP hS => ?_)
  unfold fX4_keep_2 at hf
  refine lv_aload_n hx hb dX4_keep_0 rfl (lv_at hl 0 rfl) ?_
  refine va_get (D := D.1) (ci := 3) (v := .int (2 : Int32)) (C := RX4) (T := TX4) (N := 2) hx hb hts hwX4 hown hK.1 hP 0 rfl rfl 1 (by decide) l20 (fun _ h9 => h9) rfl dX4_keep_1 ?_
  refine lv_iconst (v := 4) hx hb dX4_keep_4 (by decide) ?_
  refine lv_icmp_lt (tgt := 12) hx hb dX4_keep_5 (by decide) (fun _ => ?_) (fun c_1 => absurd (by decide) c_1)
  refine lv_aload_n hx hb dX4_keep_12 rfl (lv_at hl 0 rfl) ?_
  refine va_get (D := D.1) (ci := 3) (v := .ref a0_before) (C := RX4) (T := TX4) (N := 2) hx hb hts hwX4 hown hK.1 hP 0 rfl rfl 0 (by decide) l11 (fun _ h9 => h9) rfl dX4_keep_13 ?_
  refine lv_aload_n hx hb dX4_keep_16 rfl (lv_at hl 0 rfl) ?_
  refine va_get (D := D.1) (ci := 3) (v := .int (2 : Int32)) (C := RX4) (T := TX4) (N := 2) hx hb hts hwX4 hown hK.1 hP 0 rfl rfl 1 (by decide) l20 (fun _ h9 => h9) rfl dX4_keep_17 ?_
  refine va_aldq hx hb hK.1 hP 1 4 rfl rfl (show ¬ ((2 : Int32) < 0 ∨ 4 ≤ ((2 : Int32)).toNatClampNeg) by decide) dX4_keep_20 ?_
  refine W.eq (g2 := F0 m 21 ls [.ref a0_before_2]) rfl ?_
  refine lv_aload_n hx hb dX4_keep_21 rfl (lv_at hl 1 rfl) ?_
  obtain ⟨r2, hr2, hf⟩ := bd hf
  refine zVv (As := [.ref a1]) (rest := []) (ci := 5) (q0 := 0) (wn := [(a0, .inr (3, [.ref a0_before, .int (2 : Int32)])), (a0_before, .inl (D.2 4, 4, .inr (.inr (.inr (.inr (zq4 (some a0_before_0) (some a0_before_1) (some a0_before_2) (some a0_before_3))))))), (a0_before_2, .inr (5, [.ref a0_before_2_rows, .int r2.1])), (a0_before_2_rows, .inl (D.2 2, 40, .inr (.inl r2.2))), (a1, .inr (5, [.ref a1_rows, .int v1_size])), (a1_rows, .inl (D.2 2, n1_rows, .inr (.inl g1_rows)))]) ⟨hx, hb, hml, hown, hts⟩ (mX7_copy l D a0_before_2 a0_before_2_rows a1 a1_rows H.size 40 n1_rows v0_before_2_size g0_before_2_rows v1_size g1_rows r2 hr2) (cwV 1 hts gX4_keep_X7_copy rfl rfl rfl (by decide +kernel) ⟨Nat.le_of_ble_eq_true rfl, Nat.le_of_ble_eq_true rfl⟩) hK hP hD hS hA [2, 3, 4, 5] [0, 1] [0, 1, 2, 3, 4, 5] rfl (by decide) rfl (by decide) (by decide) rfl (by decide) rfl rfl rfl hl.1 rfl (Nat.le_of_ble_eq_true rfl) dX4_keep_22 ⟨Nat.zero_le _, Nat.zero_le _⟩ (fun H locs hP hD hS => ?_)
  refine lv_aload_n hx hb dX4_keep_25 rfl (lv_at hl 0 rfl) ?_
  refine lv_dup hx hb dX4_keep_26 rfl ?_
  refine va_get (D := D.1) (ci := 3) (v := .int (2 : Int32)) (C := RX4) (T := TX4) (N := 2) hx hb hts hwX4 hown hK.1 hP 0 rfl rfl 1 (by decide) l20 (fun _ h9 => h9) rfl dX4_keep_27 ?_
  refine lv_iconst (v := 1) hx hb dX4_keep_30 (by decide) ?_
  refine lv_iadd hx hb dX4_keep_31 ?_
  refine va_put (D := D.1) (ci := 3) (v := .int ((2 : Int32) + (1 : Int32))) (ty := .int) (C := RX4) (T := TX4) (N := 2) hx hb hts hwX4 tyX4 tyX4_ok nmX4 hown hK.1 hP hD hS 0 rfl rfl 1 (by decide) l20 (fun _ h9 => h9) rfl (by decide +kernel) rfl rfl (Nat.le_of_ble_eq_true rfl) dX4_keep_32 (fun H locs hP hD hS => ?_)
  have hP : va_P D.1 vwCl [(a0, .inr (3, [.ref a0_before, .int ((2 : Int32) + (1 : Int32))])), (a0_before, .inl (D.2 4, 4, .inr (.inr (.inr (.inr (zq4 (some a0_before_0) (some a0_before_1) (some a0_before_2) (some a0_before_3))))))), (a0_before_2, .inr (5, [.ref a0_before_2_rows, .int r2.1])), (a0_before_2_rows, .inl (D.2 2, 40, .inr (.inl r2.2))), (a1, .inr (5, [.ref a1_rows, .int v1_size])), (a1_rows, .inl (D.2 2, n1_rows, .inr (.inl g1_rows)))] H := hP
  have hD : va_D A [(a0, .inr (3, [.ref a0_before, .int ((2 : Int32) + (1 : Int32))])), (a0_before, .inl (D.2 4, 4, .inr (.inr (.inr (.inr (zq4 (some a0_before_0) (some a0_before_1) (some a0_before_2) (some a0_before_3))))))), (a0_before_2, .inr (5, [.ref a0_before_2_rows, .int r2.1])), (a0_before_2_rows, .inl (D.2 2, 40, .inr (.inl r2.2))), (a1, .inr (5, [.ref a1_rows, .int v1_size])), (a1_rows, .inl (D.2 2, n1_rows, .inr (.inl g1_rows)))] := hD
  have he := Option.some.inj hf
  rw [hQ]
  exact W.vret hx hb hr (fun t ht hW => by rw [← he]; exact ⟨⟨(), rfl, trivial, by rw [ht]; exact hP, hD⟩, hS.F ht⟩) hS.2.2 dX4_keep_35
def fX4_keep_3 (n1_rows : Nat) (v0_before_3_size : Int32) (g0_before_3_rows : Nat → Int64) (v1_size : Int32) (g1_rows : Nat → Int64) : Option (Int32 × Int32 × (Nat → Int64)) :=
  Option.bind (fX7_copy 40 n1_rows v0_before_3_size g0_before_3_rows v1_size g1_rows) fun r2 =>
  some (((3 : Int32) + (1 : Int32)), r2.1, r2.2)
set_option maxHeartbeats 4000000 in
set_option maxRecDepth 100000 in
theorem mX4_keep_3 (l : Launch) (D : zG) (a0 : Nat) (a0_before : Nat) (a0_before_0 : Nat) (a0_before_1 : Nat) (a0_before_2 : Nat) (a0_before_3 : Nat) (a0_before_3_rows : Nat) (a1 : Nat) (a1_rows : Nat) (sz : Nat) (n1_rows : Nat) (v0_before_3_size : Int32) (g0_before_3_rows : Nat → Int64) (v1_size : Int32) (g1_rows : Nat → Int64)  (res : Int32 × Int32 × (Nat → Int64)) (hf : fX4_keep_3 n1_rows v0_before_3_size g0_before_3_rows v1_size g1_rows = some res) : Met l yX4_keep wsX4_keep ({ frames := 2, cells := 0, slots := 0, locals := 61 } : Room) (va_Pc [.ref a0, .ref a1] (zW D sz [(a0, .inr (3, [.ref a0_before, .int (3 : Int32)])), (a0_before, .inl (D.2 4, 4, .inr (.inr (.inr (.inr (zq4 (some a0_before_0) (some a0_before_1) (some a0_before_2) (some a0_before_3))))))), (a0_before_3, .inr (5, [.ref a0_before_3_rows, .int v0_before_3_size])), (a0_before_3_rows, .inl (D.2 2, 40, .inr (.inl g0_before_3_rows))), (a1, .inr (5, [.ref a1_rows, .int v1_size])), (a1_rows, .inl (D.2 2, n1_rows, .inr (.inl g1_rows)))])) (va_Qv (fun (_ : Unit) => True) (fun _ => zB D (va_A [(a0, .inr (3, [.ref a0_before, .int (3 : Int32)])), (a0_before, .inl (D.2 4, 4, .inr (.inr (.inr (.inr (zq4 (some a0_before_0) (some a0_before_1) (some a0_before_2) (some a0_before_3))))))), (a0_before_3, .inr (5, [.ref a0_before_3_rows, .int v0_before_3_size])), (a0_before_3_rows, .inl (D.2 2, 40, .inr (.inl g0_before_3_rows))), (a1, .inr (5, [.ref a1_rows, .int v1_size])), (a1_rows, .inl (D.2 2, n1_rows, .inr (.inl g1_rows)))] sz) [(a0, .inr (3, [.ref a0_before, .int res.1])), (a0_before, .inl (D.2 4, 4, .inr (.inr (.inr (.inr (zq4 (some a0_before_0) (some a0_before_1) (some a0_before_2) (some a0_before_3))))))), (a0_before_3, .inr (5, [.ref a0_before_3_rows, .int res.2.1])), (a0_before_3_rows, .inl (D.2 2, 40, .inr (.inl res.2.2))), (a1, .inr (5, [.ref a1_rows, .int v1_size])), (a1_rows, .inl (D.2 2, n1_rows, .inr (.inl g1_rows)))]) (va_A [(a0, .inr (3, [.ref a0_before, .int (3 : Int32)])), (a0_before, .inl (D.2 4, 4, .inr (.inr (.inr (.inr (zq4 (some a0_before_0) (some a0_before_1) (some a0_before_2) (some a0_before_3))))))), (a0_before_3, .inr (5, [.ref a0_before_3_rows, .int v0_before_3_size])), (a0_before_3_rows, .inl (D.2 2, 40, .inr (.inl g0_before_3_rows))), (a1, .inr (5, [.ref a1_rows, .int v1_size])), (a1_rows, .inl (D.2 2, n1_rows, .inr (.inl g1_rows)))] sz)) 0 0 (va_A [(a0, .inr (3, [.ref a0_before, .int (3 : Int32)])), (a0_before, .inl (D.2 4, 4, .inr (.inr (.inr (.inr (zq4 (some a0_before_0) (some a0_before_1) (some a0_before_2) (some a0_before_3))))))), (a0_before_3, .inr (5, [.ref a0_before_3_rows, .int v0_before_3_size])), (a0_before_3_rows, .inl (D.2 2, 40, .inr (.inl g0_before_3_rows))), (a1, .inr (5, [.ref a1_rows, .int v1_size])), (a1_rows, .inl (D.2 2, n1_rows, .inr (.inl g1_rows)))] sz) := by
  refine Met.ofW (cc := cX4_keep) (maxL := 2) (ret := none) (by decide) rfl ?_
  intro p e s m args below meth c s₁ B hml hv
  obtain ⟨rfl, hsz, hP, hK, hD0⟩ := hv
  have hx := B.exec
  have hb := B.bytes
  have hr := B.returns
  have hts := atoms_spec (ws := wsX4_keep) B.pre
  have hown : s.vm.findClass RX4 = some m.cls := findClass_of_methodNamed B.named
  have hlocks := B.notSynchronized
  subst hsz
  have hD := hD0.self (sz := s.heap.size)
  generalize hAe : va_A [(a0, .inr (3, [.ref a0_before, .int (3 : Int32)])), (a0_before, .inl (D.2 4, 4, .inr (.inr (.inr (.inr (zq4 (some a0_before_0) (some a0_before_1) (some a0_before_2) (some a0_before_3))))))), (a0_before_3, .inr (5, [.ref a0_before_3_rows, .int v0_before_3_size])), (a0_before_3_rows, .inl (D.2 2, 40, .inr (.inl g0_before_3_rows))), (a1, .inr (5, [.ref a1_rows, .int v1_size])), (a1_rows, .inl (D.2 2, n1_rows, .inr (.inl g1_rows)))] s.heap.size = A at hD ⊢
  have hA : ∀ q : Nat, s.heap.size ≤ q → A q := fun q h => by rw [← hAe]; exact Or.inr h
  have l20 := zat hts 1 (w := .fieldLink RX4 20 "TurnedWords$Merges" "size" "I") rfl
  have l11 := zat hts 2 (w := .fieldLink RX4 11 "TurnedWords$Merges" "before" "[LTurnedWords$Rising;") rfl
  have hwX4 : ∀ w ∈ u_ws RX4 TX4 2, w ∈ wsX4_keep := fun w h => List.mem_cons_of_mem _ (List.mem_append_left _ (List.mem_append_right _ h))
  have hl := lv_entry ([.ref a0, .ref a1]) (n := 2) (Nat.le_of_ble_eq_true rfl)
  rw [lg_entry_eq]
  generalize (lg_sl ([.ref a0, .ref a1]) ++ List.replicate (2 - (lg_sl ([.ref a0, .ref a1])).length) Slot.unset).toArray = ls at hl ⊢
  have hl : lv_has ls 2 [(0, .ref a0), (1, .ref a1)] := hl
  refine zStart (A := A) hP (fun Q0 H locs hQ hP hS => ?_)
  unfold fX4_keep_3 at hf
  refine lv_aload_n hx hb dX4_keep_0 rfl (lv_at hl 0 rfl) ?_
  refine va_get (D := D.1) (ci := 3) (v := .int (3 : Int32)) (C := RX4) (T := TX4) (N := 2) hx hb hts hwX4 hown hK.1 hP 0 rfl rfl 1 (by decide) l20 (fun _ h9 => h9) rfl dX4_keep_1 ?_
  refine lv_iconst (v := 4) hx hb dX4_keep_4 (by decide) ?_
  refine lv_icmp_lt (tgt := 12) hx hb dX4_keep_5 (by decide) (fun _ => ?_) (fun c_1 => absurd (by decide) c_1)
  refine lv_aload_n hx hb dX4_keep_12 rfl (lv_at hl 0 rfl) ?_
  refine va_get (D := D.1) (ci := 3) (v := .ref a0_before) (C := RX4) (T := TX4) (N := 2) hx hb hts hwX4 hown hK.1 hP 0 rfl rfl 0 (by decide) l11 (fun _ h9 => h9) rfl dX4_keep_13 ?_
  refine lv_aload_n hx hb dX4_keep_16 rfl (lv_at hl 0 rfl) ?_
  refine va_get (D := D.1) (ci := 3) (v := .int (3 : Int32)) (C := RX4) (T := TX4) (N := 2) hx hb hts hwX4 hown hK.1 hP 0 rfl rfl 1 (by decide) l20 (fun _ h9 => h9) rfl dX4_keep_17 ?_
  refine va_aldq hx hb hK.1 hP 1 4 rfl rfl (show ¬ ((3 : Int32) < 0 ∨ 4 ≤ ((3 : Int32)).toNatClampNeg) by decide) dX4_keep_20 ?_
  refine W.eq (g2 := F0 m 21 ls [.ref a0_before_3]) rfl ?_
  refine lv_aload_n hx hb dX4_keep_21 rfl (lv_at hl 1 rfl) ?_
  obtain ⟨r2, hr2, hf⟩ := bd hf
  refine zVv (As := [.ref a1]) (rest := []) (ci := 5) (q0 := 0) (wn := [(a0, .inr (3, [.ref a0_before, .int (3 : Int32)])), (a0_before, .inl (D.2 4, 4, .inr (.inr (.inr (.inr (zq4 (some a0_before_0) (some a0_before_1) (some a0_before_2) (some a0_before_3))))))), (a0_before_3, .inr (5, [.ref a0_before_3_rows, .int r2.1])), (a0_before_3_rows, .inl (D.2 2, 40, .inr (.inl r2.2))), (a1, .inr (5, [.ref a1_rows, .int v1_size])), (a1_rows, .inl (D.2 2, n1_rows, .inr (.inl g1_rows)))]) ⟨hx, hb, hml, hown, hts⟩ (mX7_copy l D a0_before_3 a0_before_3_rows a1 a1_rows H.size 40 n1_rows v0_before_3_size g0_before_3_rows v1_size g1_rows r2 hr2) (cwV 1 hts gX4_keep_X7_copy rfl rfl rfl (by decide +kernel) ⟨Nat.le_of_ble_eq_true rfl, Nat.le_of_ble_eq_true rfl⟩) hK hP hD hS hA [2, 3, 4, 5] [0, 1] [0, 1, 2, 3, 4, 5] rfl (by decide) rfl (by decide) (by decide) rfl (by decide) rfl rfl rfl hl.1 rfl (Nat.le_of_ble_eq_true rfl) dX4_keep_22 ⟨Nat.zero_le _, Nat.zero_le _⟩ (fun H locs hP hD hS => ?_)
  refine lv_aload_n hx hb dX4_keep_25 rfl (lv_at hl 0 rfl) ?_
  refine lv_dup hx hb dX4_keep_26 rfl ?_
  refine va_get (D := D.1) (ci := 3) (v := .int (3 : Int32)) (C := RX4) (T := TX4) (N := 2) hx hb hts hwX4 hown hK.1 hP 0 rfl rfl 1 (by decide) l20 (fun _ h9 => h9) rfl dX4_keep_27 ?_
  refine lv_iconst (v := 1) hx hb dX4_keep_30 (by decide) ?_
  refine lv_iadd hx hb dX4_keep_31 ?_
  refine va_put (D := D.1) (ci := 3) (v := .int ((3 : Int32) + (1 : Int32))) (ty := .int) (C := RX4) (T := TX4) (N := 2) hx hb hts hwX4 tyX4 tyX4_ok nmX4 hown hK.1 hP hD hS 0 rfl rfl 1 (by decide) l20 (fun _ h9 => h9) rfl (by decide +kernel) rfl rfl (Nat.le_of_ble_eq_true rfl) dX4_keep_32 (fun H locs hP hD hS => ?_)
  have hP : va_P D.1 vwCl [(a0, .inr (3, [.ref a0_before, .int ((3 : Int32) + (1 : Int32))])), (a0_before, .inl (D.2 4, 4, .inr (.inr (.inr (.inr (zq4 (some a0_before_0) (some a0_before_1) (some a0_before_2) (some a0_before_3))))))), (a0_before_3, .inr (5, [.ref a0_before_3_rows, .int r2.1])), (a0_before_3_rows, .inl (D.2 2, 40, .inr (.inl r2.2))), (a1, .inr (5, [.ref a1_rows, .int v1_size])), (a1_rows, .inl (D.2 2, n1_rows, .inr (.inl g1_rows)))] H := hP
  have hD : va_D A [(a0, .inr (3, [.ref a0_before, .int ((3 : Int32) + (1 : Int32))])), (a0_before, .inl (D.2 4, 4, .inr (.inr (.inr (.inr (zq4 (some a0_before_0) (some a0_before_1) (some a0_before_2) (some a0_before_3))))))), (a0_before_3, .inr (5, [.ref a0_before_3_rows, .int r2.1])), (a0_before_3_rows, .inl (D.2 2, 40, .inr (.inl r2.2))), (a1, .inr (5, [.ref a1_rows, .int v1_size])), (a1_rows, .inl (D.2 2, n1_rows, .inr (.inl g1_rows)))] := hD
  have he := Option.some.inj hf
  rw [hQ]
  exact W.vret hx hb hr (fun t ht hW => by rw [← he]; exact ⟨⟨(), rfl, trivial, by rw [ht]; exact hP, hD⟩, hS.F ht⟩) hS.2.2 dX4_keep_35
def fX4_keep_4 (n1_rows : Nat) (v0_before_0_size : Int32) (g0_before_0_rows : Nat → Int64) (v0_before_1_size : Int32) (g0_before_1_rows : Nat → Int64) (v0_before_2_size : Int32) (g0_before_2_rows : Nat → Int64) (v0_before_3_size : Int32) (g0_before_3_rows : Nat → Int64) (v1_size : Int32) (g1_rows : Nat → Int64) (a0_before_0 : Nat) (a0_before_0_rows : Nat) (a0_before_1 : Nat) (a0_before_1_rows : Nat) (a0_before_2 : Nat) (a0_before_2_rows : Nat) (a0_before_3 : Nat) (a0_before_3_rows : Nat) : Option (Int32 × Int32 × (Nat → Int64) × Int32 × (Nat → Int64) × Int32 × (Nat → Int64) × Int32 × (Nat → Int64)) :=
  Option.bind (fX4_forgetOldest (4 : Int32) v0_before_0_size g0_before_0_rows v0_before_1_size g0_before_1_rows v0_before_2_size g0_before_2_rows v0_before_3_size g0_before_3_rows a0_before_0 a0_before_0_rows a0_before_1 a0_before_1_rows a0_before_2 a0_before_2_rows a0_before_3 a0_before_3_rows) fun r2 =>
  Option.bind (fX7_copy 40 n1_rows r2.2.2.2.2.2.2.1 r2.2.2.2.2.2.2.2 v1_size g1_rows) fun r3 =>
  some (((3 : Int32) + (1 : Int32)), r2.1, r2.2.1, r2.2.2.1, r2.2.2.2.1, r2.2.2.2.2.1, r2.2.2.2.2.2.1, r3.1, r3.2)
set_option maxHeartbeats 4000000 in
set_option maxRecDepth 100000 in
theorem mX4_keep_4 (l : Launch) (D : zG) (a0 : Nat) (a0_before : Nat) (a0_before_0 : Nat) (a0_before_1 : Nat) (a0_before_2 : Nat) (a0_before_3 : Nat) (a0_before_0_rows : Nat) (a0_before_1_rows : Nat) (a0_before_2_rows : Nat) (a0_before_3_rows : Nat) (a1 : Nat) (a1_rows : Nat) (sz : Nat) (n1_rows : Nat) (v0_before_0_size : Int32) (g0_before_0_rows : Nat → Int64) (v0_before_1_size : Int32) (g0_before_1_rows : Nat → Int64) (v0_before_2_size : Int32) (g0_before_2_rows : Nat → Int64) (v0_before_3_size : Int32) (g0_before_3_rows : Nat → Int64) (v1_size : Int32) (g1_rows : Nat → Int64)  (res : Int32 × Int32 × (Nat → Int64) × Int32 × (Nat → Int64) × Int32 × (Nat → Int64) × Int32 × (Nat → Int64)) (hf : fX4_keep_4 n1_rows v0_before_0_size g0_before_0_rows v0_before_1_size g0_before_1_rows v0_before_2_size g0_before_2_rows v0_before_3_size g0_before_3_rows v1_size g1_rows a0_before_0 a0_before_0_rows a0_before_1 a0_before_1_rows a0_before_2 a0_before_2_rows a0_before_3 a0_before_3_rows = some res) : Met l yX4_keep wsX4_keep ({ frames := 2, cells := 0, slots := 0, locals := 61 } : Room) (va_Pc [.ref a0, .ref a1] (zW D sz [(a0, .inr (3, [.ref a0_before, .int (4 : Int32)])), (a0_before, .inl (D.2 4, 4, .inr (.inr (.inr (.inr (zq4 (some a0_before_0) (some a0_before_1) (some a0_before_2) (some a0_before_3))))))), (a0_before_0, .inr (5, [.ref a0_before_0_rows, .int v0_before_0_size])), (a0_before_0_rows, .inl (D.2 2, 40, .inr (.inl g0_before_0_rows))), (a0_before_1, .inr (5, [.ref a0_before_1_rows, .int v0_before_1_size])), (a0_before_1_rows, .inl (D.2 2, 40, .inr (.inl g0_before_1_rows))), (a0_before_2, .inr (5, [.ref a0_before_2_rows, .int v0_before_2_size])), (a0_before_2_rows, .inl (D.2 2, 40, .inr (.inl g0_before_2_rows))), (a0_before_3, .inr (5, [.ref a0_before_3_rows, .int v0_before_3_size])), (a0_before_3_rows, .inl (D.2 2, 40, .inr (.inl g0_before_3_rows))), (a1, .inr (5, [.ref a1_rows, .int v1_size])), (a1_rows, .inl (D.2 2, n1_rows, .inr (.inl g1_rows)))])) (va_Qv (fun (_ : Unit) => True) (fun _ => zB D (va_A [(a0, .inr (3, [.ref a0_before, .int (4 : Int32)])), (a0_before, .inl (D.2 4, 4, .inr (.inr (.inr (.inr (zq4 (some a0_before_0) (some a0_before_1) (some a0_before_2) (some a0_before_3))))))), (a0_before_0, .inr (5, [.ref a0_before_0_rows, .int v0_before_0_size])), (a0_before_0_rows, .inl (D.2 2, 40, .inr (.inl g0_before_0_rows))), (a0_before_1, .inr (5, [.ref a0_before_1_rows, .int v0_before_1_size])), (a0_before_1_rows, .inl (D.2 2, 40, .inr (.inl g0_before_1_rows))), (a0_before_2, .inr (5, [.ref a0_before_2_rows, .int v0_before_2_size])), (a0_before_2_rows, .inl (D.2 2, 40, .inr (.inl g0_before_2_rows))), (a0_before_3, .inr (5, [.ref a0_before_3_rows, .int v0_before_3_size])), (a0_before_3_rows, .inl (D.2 2, 40, .inr (.inl g0_before_3_rows))), (a1, .inr (5, [.ref a1_rows, .int v1_size])), (a1_rows, .inl (D.2 2, n1_rows, .inr (.inl g1_rows)))] sz) [(a0, .inr (3, [.ref a0_before, .int res.1])), (a0_before, .inl (D.2 4, 4, .inr (.inr (.inr (.inr (zq4 (some a0_before_1) (some a0_before_2) (some a0_before_3) (some a0_before_0))))))), (a0_before_1, .inr (5, [.ref a0_before_1_rows, .int res.2.1])), (a0_before_1_rows, .inl (D.2 2, 40, .inr (.inl res.2.2.1))), (a0_before_2, .inr (5, [.ref a0_before_2_rows, .int res.2.2.2.1])), (a0_before_2_rows, .inl (D.2 2, 40, .inr (.inl res.2.2.2.2.1))), (a0_before_3, .inr (5, [.ref a0_before_3_rows, .int res.2.2.2.2.2.1])), (a0_before_3_rows, .inl (D.2 2, 40, .inr (.inl res.2.2.2.2.2.2.1))), (a0_before_0, .inr (5, [.ref a0_before_0_rows, .int res.2.2.2.2.2.2.2.1])), (a0_before_0_rows, .inl (D.2 2, 40, .inr (.inl res.2.2.2.2.2.2.2.2))), (a1, .inr (5, [.ref a1_rows, .int v1_size])), (a1_rows, .inl (D.2 2, n1_rows, .inr (.inl g1_rows)))]) (va_A [(a0, .inr (3, [.ref a0_before, .int (4 : Int32)])), (a0_before, .inl (D.2 4, 4, .inr (.inr (.inr (.inr (zq4 (some a0_before_0) (some a0_before_1) (some a0_before_2) (some a0_before_3))))))), (a0_before_0, .inr (5, [.ref a0_before_0_rows, .int v0_before_0_size])), (a0_before_0_rows, .inl (D.2 2, 40, .inr (.inl g0_before_0_rows))), (a0_before_1, .inr (5, [.ref a0_before_1_rows, .int v0_before_1_size])), (a0_before_1_rows, .inl (D.2 2, 40, .inr (.inl g0_before_1_rows))), (a0_before_2, .inr (5, [.ref a0_before_2_rows, .int v0_before_2_size])), (a0_before_2_rows, .inl (D.2 2, 40, .inr (.inl g0_before_2_rows))), (a0_before_3, .inr (5, [.ref a0_before_3_rows, .int v0_before_3_size])), (a0_before_3_rows, .inl (D.2 2, 40, .inr (.inl g0_before_3_rows))), (a1, .inr (5, [.ref a1_rows, .int v1_size])), (a1_rows, .inl (D.2 2, n1_rows, .inr (.inl g1_rows)))] sz)) 0 0 (va_A [(a0, .inr (3, [.ref a0_before, .int (4 : Int32)])), (a0_before, .inl (D.2 4, 4, .inr (.inr (.inr (.inr (zq4 (some a0_before_0) (some a0_before_1) (some a0_before_2) (some a0_before_3))))))), (a0_before_0, .inr (5, [.ref a0_before_0_rows, .int v0_before_0_size])), (a0_before_0_rows, .inl (D.2 2, 40, .inr (.inl g0_before_0_rows))), (a0_before_1, .inr (5, [.ref a0_before_1_rows, .int v0_before_1_size])), (a0_before_1_rows, .inl (D.2 2, 40, .inr (.inl g0_before_1_rows))), (a0_before_2, .inr (5, [.ref a0_before_2_rows, .int v0_before_2_size])), (a0_before_2_rows, .inl (D.2 2, 40, .inr (.inl g0_before_2_rows))), (a0_before_3, .inr (5, [.ref a0_before_3_rows, .int v0_before_3_size])), (a0_before_3_rows, .inl (D.2 2, 40, .inr (.inl g0_before_3_rows))), (a1, .inr (5, [.ref a1_rows, .int v1_size])), (a1_rows, .inl (D.2 2, n1_rows, .inr (.inl g1_rows)))] sz) := by
  refine Met.ofW (cc := cX4_keep) (maxL := 2) (ret := none) (by decide) rfl ?_
  intro p e s m args below meth c s₁ B hml hv
  obtain ⟨rfl, hsz, hP, hK, hD0⟩ := hv
  have hx := B.exec
  have hb := B.bytes
  have hr := B.returns
  have hts := atoms_spec (ws := wsX4_keep) B.pre
  have hown : s.vm.findClass RX4 = some m.cls := findClass_of_methodNamed B.named
  have hlocks := B.notSynchronized
  subst hsz
  have hD := hD0.self (sz := s.heap.size)
  generalize hAe : va_A [(a0, .inr (3, [.ref a0_before, .int (4 : Int32)])), (a0_before, .inl (D.2 4, 4, .inr (.inr (.inr (.inr (zq4 (some a0_before_0) (some a0_before_1) (some a0_before_2) (some a0_before_3))))))), (a0_before_0, .inr (5, [.ref a0_before_0_rows, .int v0_before_0_size])), (a0_before_0_rows, .inl (D.2 2, 40, .inr (.inl g0_before_0_rows))), (a0_before_1, .inr (5, [.ref a0_before_1_rows, .int v0_before_1_size])), (a0_before_1_rows, .inl (D.2 2, 40, .inr (.inl g0_before_1_rows))), (a0_before_2, .inr (5, [.ref a0_before_2_rows, .int v0_before_2_size])), (a0_before_2_rows, .inl (D.2 2, 40, .inr (.inl g0_before_2_rows))), (a0_before_3, .inr (5, [.ref a0_before_3_rows, .int v0_before_3_size])), (a0_before_3_rows, .inl (D.2 2, 40, .inr (.inl g0_before_3_rows))), (a1, .inr (5, [.ref a1_rows, .int v1_size])), (a1_rows, .inl (D.2 2, n1_rows, .inr (.inl g1_rows)))] s.heap.size = A at hD ⊢
  have hA : ∀ q : Nat, s.heap.size ≤ q → A q := fun q h => by rw [← hAe]; exact Or.inr h
  have l20 := zat hts 1 (w := .fieldLink RX4 20 "TurnedWords$Merges" "size" "I") rfl
  have l11 := zat hts 2 (w := .fieldLink RX4 11 "TurnedWords$Merges" "before" "[LTurnedWords$Rising;") rfl
  have hwX4 : ∀ w ∈ u_ws RX4 TX4 2, w ∈ wsX4_keep := fun w h => List.mem_cons_of_mem _ (List.mem_append_left _ (List.mem_append_right _ h))
  have hl := lv_entry ([.ref a0, .ref a1]) (n := 2) (Nat.le_of_ble_eq_true rfl)
  rw [lg_entry_eq]
  generalize (lg_sl ([.ref a0, .ref a1]) ++ List.replicate (2 - (lg_sl ([.ref a0, .ref a1])).length) Slot.unset).toArray = ls at hl ⊢
  have hl : lv_has ls 2 [(0, .ref a0), (1, .ref a1)] := hl
  refine zStart (A := A) hP (fun Q0 H locs hQ hP hS => ?_)
  unfold fX4_keep_4 at hf
  refine lv_aload_n hx hb dX4_keep_0 rfl (lv_at hl 0 rfl) ?_
  refine va_get (D := D.1) (ci := 3) (v := .int (4 : Int32)) (C := RX4) (T := TX4) (N := 2) hx hb hts hwX4 hown hK.1 hP 0 rfl rfl 1 (by decide) l20 (fun _ h9 => h9) rfl dX4_keep_1 ?_
  refine lv_iconst (v := 4) hx hb dX4_keep_4 (by decide) ?_
  refine lv_icmp_lt (tgt := 12) hx hb dX4_keep_5 (by decide) (fun c_1 => absurd c_1 (by decide)) (fun _ => ?_)
  refine lv_aload_n hx hb dX4_keep_8 rfl (lv_at hl 0 rfl) ?_
  obtain ⟨r2, hr2, hf⟩ := bd hf
  refine zVv (As := []) (rest := []) (ci := 3) (q0 := 0) (wn := [(a0, .inr (3, [.ref a0_before, .int (3 : Int32)])), (a0_before, .inl (D.2 4, 4, .inr (.inr (.inr (.inr (zq4 (some a0_before_1) (some a0_before_2) (some a0_before_3) (some a0_before_0))))))), (a0_before_1, .inr (5, [.ref a0_before_1_rows, .int r2.1])), (a0_before_1_rows, .inl (D.2 2, 40, .inr (.inl r2.2.1))), (a0_before_2, .inr (5, [.ref a0_before_2_rows, .int r2.2.2.1])), (a0_before_2_rows, .inl (D.2 2, 40, .inr (.inl r2.2.2.2.1))), (a0_before_3, .inr (5, [.ref a0_before_3_rows, .int r2.2.2.2.2.1])), (a0_before_3_rows, .inl (D.2 2, 40, .inr (.inl r2.2.2.2.2.2.1))), (a0_before_0, .inr (5, [.ref a0_before_0_rows, .int r2.2.2.2.2.2.2.1])), (a0_before_0_rows, .inl (D.2 2, 40, .inr (.inl r2.2.2.2.2.2.2.2))), (a1, .inr (5, [.ref a1_rows, .int v1_size])), (a1_rows, .inl (D.2 2, n1_rows, .inr (.inl g1_rows)))]) ⟨hx, hb, hml, hown, hts⟩ (mX4_forgetOldest l D a0 a0_before a0_before_0 a0_before_1 a0_before_2 a0_before_3 a0_before_0_rows a0_before_1_rows a0_before_2_rows a0_before_3_rows H.size (4 : Int32) v0_before_0_size g0_before_0_rows v0_before_1_size g0_before_1_rows v0_before_2_size g0_before_2_rows v0_before_3_size g0_before_3_rows r2 hr2) (cwV 0 hts gX4_keep_X4_forgetOldest rfl rfl rfl (by decide +kernel) ⟨Nat.le_of_ble_eq_true rfl, Nat.le_of_ble_eq_true rfl⟩) hK hP hD hS hA [0, 1, 2, 3, 4, 5, 6, 7, 8, 9] [10, 11] [2, 3, 4, 5, 6, 7, 8, 9, 10, 11, 0, 1] rfl (by decide) rfl (by decide) (by decide) rfl (by decide) rfl rfl rfl hl.1 rfl (Nat.le_of_ble_eq_true rfl) dX4_keep_9 ⟨Nat.zero_le _, Nat.zero_le _⟩ (fun H locs hP hD hS => ?_)
  refine lv_aload_n hx hb dX4_keep_12 rfl (lv_at hl 0 rfl) ?_
  refine va_get (D := D.1) (ci := 3) (v := .ref a0_before) (C := RX4) (T := TX4) (N := 2) hx hb hts hwX4 hown hK.1 hP 0 rfl rfl 0 (by decide) l11 (fun _ h9 => h9) rfl dX4_keep_13 ?_
  refine lv_aload_n hx hb dX4_keep_16 rfl (lv_at hl 0 rfl) ?_
  refine va_get (D := D.1) (ci := 3) (v := .int (3 : Int32)) (C := RX4) (T := TX4) (N := 2) hx hb hts hwX4 hown hK.1 hP 0 rfl rfl 1 (by decide) l20 (fun _ h9 => h9) rfl dX4_keep_17 ?_
  refine va_aldq hx hb hK.1 hP 1 4 rfl rfl (show ¬ ((3 : Int32) < 0 ∨ 4 ≤ ((3 : Int32)).toNatClampNeg) by decide) dX4_keep_20 ?_
  refine W.eq (g2 := F0 m 21 ls [.ref a0_before_0]) rfl ?_
  refine lv_aload_n hx hb dX4_keep_21 rfl (lv_at hl 1 rfl) ?_
  obtain ⟨r3, hr3, hf⟩ := bd hf
  refine zVv (As := [.ref a1]) (rest := []) (ci := 5) (q0 := 0) (wn := [(a0, .inr (3, [.ref a0_before, .int (3 : Int32)])), (a0_before, .inl (D.2 4, 4, .inr (.inr (.inr (.inr (zq4 (some a0_before_1) (some a0_before_2) (some a0_before_3) (some a0_before_0))))))), (a0_before_1, .inr (5, [.ref a0_before_1_rows, .int r2.1])), (a0_before_1_rows, .inl (D.2 2, 40, .inr (.inl r2.2.1))), (a0_before_2, .inr (5, [.ref a0_before_2_rows, .int r2.2.2.1])), (a0_before_2_rows, .inl (D.2 2, 40, .inr (.inl r2.2.2.2.1))), (a0_before_3, .inr (5, [.ref a0_before_3_rows, .int r2.2.2.2.2.1])), (a0_before_3_rows, .inl (D.2 2, 40, .inr (.inl r2.2.2.2.2.2.1))), (a0_before_0, .inr (5, [.ref a0_before_0_rows, .int r3.1])), (a0_before_0_rows, .inl (D.2 2, 40, .inr (.inl r3.2))), (a1, .inr (5, [.ref a1_rows, .int v1_size])), (a1_rows, .inl (D.2 2, n1_rows, .inr (.inl g1_rows)))]) ⟨hx, hb, hml, hown, hts⟩ (mX7_copy l D a0_before_0 a0_before_0_rows a1 a1_rows H.size 40 n1_rows r2.2.2.2.2.2.2.1 r2.2.2.2.2.2.2.2 v1_size g1_rows r3 hr3) (cwV 1 hts gX4_keep_X7_copy rfl rfl rfl (by decide +kernel) ⟨Nat.le_of_ble_eq_true rfl, Nat.le_of_ble_eq_true rfl⟩) hK hP hD hS hA [8, 9, 10, 11] [0, 1, 2, 3, 4, 5, 6, 7] [0, 1, 2, 3, 4, 5, 6, 7, 8, 9, 10, 11] rfl (by decide) rfl (by decide) (by decide) rfl (by decide) rfl rfl rfl hl.1 rfl (Nat.le_of_ble_eq_true rfl) dX4_keep_22 ⟨Nat.zero_le _, Nat.zero_le _⟩ (fun H locs hP hD hS => ?_)
  refine lv_aload_n hx hb dX4_keep_25 rfl (lv_at hl 0 rfl) ?_
  refine lv_dup hx hb dX4_keep_26 rfl ?_
  refine va_get (D := D.1) (ci := 3) (v := .int (3 : Int32)) (C := RX4) (T := TX4) (N := 2) hx hb hts hwX4 hown hK.1 hP 0 rfl rfl 1 (by decide) l20 (fun _ h9 => h9) rfl dX4_keep_27 ?_
  refine lv_iconst (v := 1) hx hb dX4_keep_30 (by decide) ?_
  refine lv_iadd hx hb dX4_keep_31 ?_
  refine va_put (D := D.1) (ci := 3) (v := .int ((3 : Int32) + (1 : Int32))) (ty := .int) (C := RX4) (T := TX4) (N := 2) hx hb hts hwX4 tyX4 tyX4_ok nmX4 hown hK.1 hP hD hS 0 rfl rfl 1 (by decide) l20 (fun _ h9 => h9) rfl (by decide +kernel) rfl rfl (Nat.le_of_ble_eq_true rfl) dX4_keep_32 (fun H locs hP hD hS => ?_)
  have hP : va_P D.1 vwCl [(a0, .inr (3, [.ref a0_before, .int ((3 : Int32) + (1 : Int32))])), (a0_before, .inl (D.2 4, 4, .inr (.inr (.inr (.inr (zq4 (some a0_before_1) (some a0_before_2) (some a0_before_3) (some a0_before_0))))))), (a0_before_1, .inr (5, [.ref a0_before_1_rows, .int r2.1])), (a0_before_1_rows, .inl (D.2 2, 40, .inr (.inl r2.2.1))), (a0_before_2, .inr (5, [.ref a0_before_2_rows, .int r2.2.2.1])), (a0_before_2_rows, .inl (D.2 2, 40, .inr (.inl r2.2.2.2.1))), (a0_before_3, .inr (5, [.ref a0_before_3_rows, .int r2.2.2.2.2.1])), (a0_before_3_rows, .inl (D.2 2, 40, .inr (.inl r2.2.2.2.2.2.1))), (a0_before_0, .inr (5, [.ref a0_before_0_rows, .int r3.1])), (a0_before_0_rows, .inl (D.2 2, 40, .inr (.inl r3.2))), (a1, .inr (5, [.ref a1_rows, .int v1_size])), (a1_rows, .inl (D.2 2, n1_rows, .inr (.inl g1_rows)))] H := hP
  have hD : va_D A [(a0, .inr (3, [.ref a0_before, .int ((3 : Int32) + (1 : Int32))])), (a0_before, .inl (D.2 4, 4, .inr (.inr (.inr (.inr (zq4 (some a0_before_1) (some a0_before_2) (some a0_before_3) (some a0_before_0))))))), (a0_before_1, .inr (5, [.ref a0_before_1_rows, .int r2.1])), (a0_before_1_rows, .inl (D.2 2, 40, .inr (.inl r2.2.1))), (a0_before_2, .inr (5, [.ref a0_before_2_rows, .int r2.2.2.1])), (a0_before_2_rows, .inl (D.2 2, 40, .inr (.inl r2.2.2.2.1))), (a0_before_3, .inr (5, [.ref a0_before_3_rows, .int r2.2.2.2.2.1])), (a0_before_3_rows, .inl (D.2 2, 40, .inr (.inl r2.2.2.2.2.2.1))), (a0_before_0, .inr (5, [.ref a0_before_0_rows, .int r3.1])), (a0_before_0_rows, .inl (D.2 2, 40, .inr (.inl r3.2))), (a1, .inr (5, [.ref a1_rows, .int v1_size])), (a1_rows, .inl (D.2 2, n1_rows, .inr (.inl g1_rows)))] := hD
  have he := Option.some.inj hf
  rw [hQ]
  exact W.vret hx hb hr (fun t ht hW => by rw [← he]; exact ⟨⟨(), rfl, trivial, by rw [ht]; exact hP, hD⟩, hS.F ht⟩) hS.2.2 dX4_keep_35
def fX4_takeLatest_0  : Option (Int32) :=
  some ((if ((0 : Int32) - (1 : Int32)) < (0 : Int32) then (0 : Int32) else ((0 : Int32) - (1 : Int32))))
set_option maxHeartbeats 4000000 in
set_option maxRecDepth 100000 in
theorem mX4_takeLatest_0 (l : Launch) (D : zG) (a0 : Nat) (a0_before : Nat) (a0_before_0 : Nat) (a0_before_1 : Nat) (a0_before_2 : Nat) (a0_before_3 : Nat) (a0_before_0_rows : Nat) (sz : Nat)  (v0_before_0_size : Int32)  (res : Int32) (hf : fX4_takeLatest_0 = some res) : Met l yX4_takeLatest wsX4_takeLatest ({ frames := 1, cells := 0, slots := 0, locals := 14 } : Room) (va_Pc [.ref a0] (zW D sz [(a0, .inr (3, [.ref a0_before, .int (0 : Int32)])), (a0_before, .inl (D.2 4, 4, .inr (.inr (.inr (.inr (zq4 (some a0_before_0) (some a0_before_1) (some a0_before_2) (some a0_before_3))))))), (a0_before_0, .inr (5, [.ref a0_before_0_rows, .int v0_before_0_size]))])) (va_Qr (fun (_ : Unit) => True) (fun _ a t => a = a0_before_0 ∧ zB D (va_A [(a0, .inr (3, [.ref a0_before, .int (0 : Int32)])), (a0_before, .inl (D.2 4, 4, .inr (.inr (.inr (.inr (zq4 (some a0_before_0) (some a0_before_1) (some a0_before_2) (some a0_before_3))))))), (a0_before_0, .inr (5, [.ref a0_before_0_rows, .int v0_before_0_size]))] sz) [(a0, .inr (3, [.ref a0_before, .int res])), (a0_before, .inl (D.2 4, 4, .inr (.inr (.inr (.inr (zq4 (some a0_before_0) (some a0_before_1) (some a0_before_2) (some a0_before_3))))))), (a0_before_0, .inr (5, [.ref a0_before_0_rows, .int v0_before_0_size]))] t) (va_A [(a0, .inr (3, [.ref a0_before, .int (0 : Int32)])), (a0_before, .inl (D.2 4, 4, .inr (.inr (.inr (.inr (zq4 (some a0_before_0) (some a0_before_1) (some a0_before_2) (some a0_before_3))))))), (a0_before_0, .inr (5, [.ref a0_before_0_rows, .int v0_before_0_size]))] sz)) 0 0 (va_A [(a0, .inr (3, [.ref a0_before, .int (0 : Int32)])), (a0_before, .inl (D.2 4, 4, .inr (.inr (.inr (.inr (zq4 (some a0_before_0) (some a0_before_1) (some a0_before_2) (some a0_before_3))))))), (a0_before_0, .inr (5, [.ref a0_before_0_rows, .int v0_before_0_size]))] sz) := by
  refine Met.ofW (cc := cX4_takeLatest) (maxL := 1) (ret := (some (.object "TurnedWords$Rising"))) (by decide) rfl ?_
  intro p e s m args below meth c s₁ B hml hv
  obtain ⟨rfl, hsz, hP, hK, hD0⟩ := hv
  have hx := B.exec
  have hb := B.bytes
  have hr := B.returns
  have hts := atoms_spec (ws := wsX4_takeLatest) B.pre
  have hown : s.vm.findClass RX4 = some m.cls := findClass_of_methodNamed B.named
  have hlocks := B.notSynchronized
  subst hsz
  have hD := hD0.self (sz := s.heap.size)
  generalize hAe : va_A [(a0, .inr (3, [.ref a0_before, .int (0 : Int32)])), (a0_before, .inl (D.2 4, 4, .inr (.inr (.inr (.inr (zq4 (some a0_before_0) (some a0_before_1) (some a0_before_2) (some a0_before_3))))))), (a0_before_0, .inr (5, [.ref a0_before_0_rows, .int v0_before_0_size]))] s.heap.size = A at hD ⊢
  have hA : ∀ q : Nat, s.heap.size ≤ q → A q := fun q h => by rw [← hAe]; exact Or.inr h
  have l20 := zat hts 1 (w := .fieldLink RX4 20 "TurnedWords$Merges" "size" "I") rfl
  have l31 := zat hts 2 (w := .methodLink RX4 31 Lib.Math.max.name) rfl
  have hstmax := zat hts 3 (w := .static Lib.Math.max.name) rfl
  have hinM := zat hts 4 (w := .initialized "java/lang/Math") rfl
  have hcdmax := zat hts 5 (w := .code Lib.Math.max.name Lib.Math.max.code 2 (some .int)) rfl
  have l11 := zat hts 6 (w := .fieldLink RX4 11 "TurnedWords$Merges" "before" "[LTurnedWords$Rising;") rfl
  have hwX4 : ∀ w ∈ u_ws RX4 TX4 2, w ∈ wsX4_takeLatest := fun w h => List.mem_cons_of_mem _ (List.mem_append_right _ h)
  have hl := lv_entry ([.ref a0]) (n := 1) (Nat.le_of_ble_eq_true rfl)
  rw [lg_entry_eq]
  generalize (lg_sl ([.ref a0]) ++ List.replicate (1 - (lg_sl ([.ref a0])).length) Slot.unset).toArray = ls at hl ⊢
  have hl : lv_has ls 1 [(0, .ref a0)] := hl
  refine zStart (A := A) hP (fun Q0 H locs hQ hP hS => ?_)
  unfold fX4_takeLatest_0 at hf
  refine lv_aload_n hx hb dX4_takeLatest_0 rfl (lv_at hl 0 rfl) ?_
  refine lv_aload_n hx hb dX4_takeLatest_1 rfl (lv_at hl 0 rfl) ?_
  refine va_get (D := D.1) (ci := 3) (v := .int (0 : Int32)) (C := RX4) (T := TX4) (N := 2) hx hb hts hwX4 hown hK.1 hP 0 rfl rfl 1 (by decide) l20 (fun _ h9 => h9) rfl dX4_takeLatest_2 ?_
  refine lv_iconst (v := 1) hx hb dX4_takeLatest_5 (by decide) ?_
  refine lv_isub hx hb dX4_takeLatest_6 ?_
  refine lv_iconst (v := 0) hx hb dX4_takeLatest_7 (by decide) ?_
  refine va_mmax hx hb (hml.trans hl.1.symm) hown l31 hstmax hinM hcdmax (Nat.le_of_ble_eq_true rfl) (Nat.le_of_ble_eq_true rfl) (Nat.zero_le _) (Nat.zero_le _) dX4_takeLatest_8 ?_
  refine va_put (D := D.1) (ci := 3) (v := .int (if ((0 : Int32) - (1 : Int32)) < (0 : Int32) then (0 : Int32) else ((0 : Int32) - (1 : Int32)))) (ty := .int) (C := RX4) (T := TX4) (N := 2) hx hb hts hwX4 tyX4 tyX4_ok nmX4 hown hK.1 hP hD hS 0 rfl rfl 1 (by decide) l20 (fun _ h9 => h9) rfl (by decide +kernel) rfl rfl (Nat.le_of_ble_eq_true rfl) dX4_takeLatest_11 (fun H locs hP hD hS => ?_)
  have hP : va_P D.1 vwCl [(a0, .inr (3, [.ref a0_before, .int (if ((0 : Int32) - (1 : Int32)) < (0 : Int32) then (0 : Int32) else ((0 : Int32) - (1 : Int32)))])), (a0_before, .inl (D.2 4, 4, .inr (.inr (.inr (.inr (zq4 (some a0_before_0) (some a0_before_1) (some a0_before_2) (some a0_before_3))))))), (a0_before_0, .inr (5, [.ref a0_before_0_rows, .int v0_before_0_size]))] H := hP
  have hD : va_D A [(a0, .inr (3, [.ref a0_before, .int (if ((0 : Int32) - (1 : Int32)) < (0 : Int32) then (0 : Int32) else ((0 : Int32) - (1 : Int32)))])), (a0_before, .inl (D.2 4, 4, .inr (.inr (.inr (.inr (zq4 (some a0_before_0) (some a0_before_1) (some a0_before_2) (some a0_before_3))))))), (a0_before_0, .inr (5, [.ref a0_before_0_rows, .int v0_before_0_size]))] := hD
  refine lv_aload_n hx hb dX4_takeLatest_14 rfl (lv_at hl 0 rfl) ?_
  refine va_get (D := D.1) (ci := 3) (v := .ref a0_before) (C := RX4) (T := TX4) (N := 2) hx hb hts hwX4 hown hK.1 hP 0 rfl rfl 0 (by decide) l11 (fun _ h9 => h9) rfl dX4_takeLatest_15 ?_
  refine lv_aload_n hx hb dX4_takeLatest_18 rfl (lv_at hl 0 rfl) ?_
  refine va_get (D := D.1) (ci := 3) (v := .int (if ((0 : Int32) - (1 : Int32)) < (0 : Int32) then (0 : Int32) else ((0 : Int32) - (1 : Int32)))) (C := RX4) (T := TX4) (N := 2) hx hb hts hwX4 hown hK.1 hP 0 rfl rfl 1 (by decide) l20 (fun _ h9 => h9) rfl dX4_takeLatest_19 ?_
  refine va_aldq hx hb hK.1 hP 1 4 rfl rfl (show ¬ ((if ((0 : Int32) - (1 : Int32)) < (0 : Int32) then (0 : Int32) else ((0 : Int32) - (1 : Int32))) < 0 ∨ 4 ≤ ((if ((0 : Int32) - (1 : Int32)) < (0 : Int32) then (0 : Int32) else ((0 : Int32) - (1 : Int32)))).toNatClampNeg) by decide) dX4_takeLatest_22 ?_
  refine W.eq (g2 := F0 m 23 ls [.ref a0_before_0]) rfl ?_
  have he := Option.some.inj hf
  rw [hQ]
  exact W.aret (v := .ref a0_before_0) hx hb hr (Or.inl ⟨_, rfl⟩) (Or.inr ⟨_, rfl⟩) (fun t ht hW => by rw [← he]; exact ⟨⟨(), a0_before_0, rfl, trivial, rfl, by rw [ht]; exact hP, hD⟩, hS.F ht⟩) hS.2.2 dX4_takeLatest_23
def fX4_takeLatest_1  : Option (Int32) :=
  some ((if ((1 : Int32) - (1 : Int32)) < (0 : Int32) then (0 : Int32) else ((1 : Int32) - (1 : Int32))))
set_option maxHeartbeats 4000000 in
set_option maxRecDepth 100000 in
theorem mX4_takeLatest_1 (l : Launch) (D : zG) (a0 : Nat) (a0_before : Nat) (a0_before_0 : Nat) (a0_before_1 : Nat) (a0_before_2 : Nat) (a0_before_3 : Nat) (a0_before_0_rows : Nat) (sz : Nat)  (v0_before_0_size : Int32)  (res : Int32) (hf : fX4_takeLatest_1 = some res) : Met l yX4_takeLatest wsX4_takeLatest ({ frames := 1, cells := 0, slots := 0, locals := 14 } : Room) (va_Pc [.ref a0] (zW D sz [(a0, .inr (3, [.ref a0_before, .int (1 : Int32)])), (a0_before, .inl (D.2 4, 4, .inr (.inr (.inr (.inr (zq4 (some a0_before_0) (some a0_before_1) (some a0_before_2) (some a0_before_3))))))), (a0_before_0, .inr (5, [.ref a0_before_0_rows, .int v0_before_0_size]))])) (va_Qr (fun (_ : Unit) => True) (fun _ a t => a = a0_before_0 ∧ zB D (va_A [(a0, .inr (3, [.ref a0_before, .int (1 : Int32)])), (a0_before, .inl (D.2 4, 4, .inr (.inr (.inr (.inr (zq4 (some a0_before_0) (some a0_before_1) (some a0_before_2) (some a0_before_3))))))), (a0_before_0, .inr (5, [.ref a0_before_0_rows, .int v0_before_0_size]))] sz) [(a0, .inr (3, [.ref a0_before, .int res])), (a0_before, .inl (D.2 4, 4, .inr (.inr (.inr (.inr (zq4 (some a0_before_0) (some a0_before_1) (some a0_before_2) (some a0_before_3))))))), (a0_before_0, .inr (5, [.ref a0_before_0_rows, .int v0_before_0_size]))] t) (va_A [(a0, .inr (3, [.ref a0_before, .int (1 : Int32)])), (a0_before, .inl (D.2 4, 4, .inr (.inr (.inr (.inr (zq4 (some a0_before_0) (some a0_before_1) (some a0_before_2) (some a0_before_3))))))), (a0_before_0, .inr (5, [.ref a0_before_0_rows, .int v0_before_0_size]))] sz)) 0 0 (va_A [(a0, .inr (3, [.ref a0_before, .int (1 : Int32)])), (a0_before, .inl (D.2 4, 4, .inr (.inr (.inr (.inr (zq4 (some a0_before_0) (some a0_before_1) (some a0_before_2) (some a0_before_3))))))), (a0_before_0, .inr (5, [.ref a0_before_0_rows, .int v0_before_0_size]))] sz) := by
  refine Met.ofW (cc := cX4_takeLatest) (maxL := 1) (ret := (some (.object "TurnedWords$Rising"))) (by decide) rfl ?_
  intro p e s m args below meth c s₁ B hml hv
  obtain ⟨rfl, hsz, hP, hK, hD0⟩ := hv
  have hx := B.exec
  have hb := B.bytes
  have hr := B.returns
  have hts := atoms_spec (ws := wsX4_takeLatest) B.pre
  have hown : s.vm.findClass RX4 = some m.cls := findClass_of_methodNamed B.named
  have hlocks := B.notSynchronized
  subst hsz
  have hD := hD0.self (sz := s.heap.size)
  generalize hAe : va_A [(a0, .inr (3, [.ref a0_before, .int (1 : Int32)])), (a0_before, .inl (D.2 4, 4, .inr (.inr (.inr (.inr (zq4 (some a0_before_0) (some a0_before_1) (some a0_before_2) (some a0_before_3))))))), (a0_before_0, .inr (5, [.ref a0_before_0_rows, .int v0_before_0_size]))] s.heap.size = A at hD ⊢
  have hA : ∀ q : Nat, s.heap.size ≤ q → A q := fun q h => by rw [← hAe]; exact Or.inr h
  have l20 := zat hts 1 (w := .fieldLink RX4 20 "TurnedWords$Merges" "size" "I") rfl
  have l31 := zat hts 2 (w := .methodLink RX4 31 Lib.Math.max.name) rfl
  have hstmax := zat hts 3 (w := .static Lib.Math.max.name) rfl
  have hinM := zat hts 4 (w := .initialized "java/lang/Math") rfl
  have hcdmax := zat hts 5 (w := .code Lib.Math.max.name Lib.Math.max.code 2 (some .int)) rfl
  have l11 := zat hts 6 (w := .fieldLink RX4 11 "TurnedWords$Merges" "before" "[LTurnedWords$Rising;") rfl
  have hwX4 : ∀ w ∈ u_ws RX4 TX4 2, w ∈ wsX4_takeLatest := fun w h => List.mem_cons_of_mem _ (List.mem_append_right _ h)
  have hl := lv_entry ([.ref a0]) (n := 1) (Nat.le_of_ble_eq_true rfl)
  rw [lg_entry_eq]
  generalize (lg_sl ([.ref a0]) ++ List.replicate (1 - (lg_sl ([.ref a0])).length) Slot.unset).toArray = ls at hl ⊢
  have hl : lv_has ls 1 [(0, .ref a0)] := hl
  refine zStart (A := A) hP (fun Q0 H locs hQ hP hS => ?_)
  unfold fX4_takeLatest_1 at hf
  refine lv_aload_n hx hb dX4_takeLatest_0 rfl (lv_at hl 0 rfl) ?_
  refine lv_aload_n hx hb dX4_takeLatest_1 rfl (lv_at hl 0 rfl) ?_
  refine va_get (D := D.1) (ci := 3) (v := .int (1 : Int32)) (C := RX4) (T := TX4) (N := 2) hx hb hts hwX4 hown hK.1 hP 0 rfl rfl 1 (by decide) l20 (fun _ h9 => h9) rfl dX4_takeLatest_2 ?_
  refine lv_iconst (v := 1) hx hb dX4_takeLatest_5 (by decide) ?_
  refine lv_isub hx hb dX4_takeLatest_6 ?_
  refine lv_iconst (v := 0) hx hb dX4_takeLatest_7 (by decide) ?_
  refine va_mmax hx hb (hml.trans hl.1.symm) hown l31 hstmax hinM hcdmax (Nat.le_of_ble_eq_true rfl) (Nat.le_of_ble_eq_true rfl) (Nat.zero_le _) (Nat.zero_le _) dX4_takeLatest_8 ?_
  refine va_put (D := D.1) (ci := 3) (v := .int (if ((1 : Int32) - (1 : Int32)) < (0 : Int32) then (0 : Int32) else ((1 : Int32) - (1 : Int32)))) (ty := .int) (C := RX4) (T := TX4) (N := 2) hx hb hts hwX4 tyX4 tyX4_ok nmX4 hown hK.1 hP hD hS 0 rfl rfl 1 (by decide) l20 (fun _ h9 => h9) rfl (by decide +kernel) rfl rfl (Nat.le_of_ble_eq_true rfl) dX4_takeLatest_11 (fun H locs hP hD hS => ?_)
  have hP : va_P D.1 vwCl [(a0, .inr (3, [.ref a0_before, .int (if ((1 : Int32) - (1 : Int32)) < (0 : Int32) then (0 : Int32) else ((1 : Int32) - (1 : Int32)))])), (a0_before, .inl (D.2 4, 4, .inr (.inr (.inr (.inr (zq4 (some a0_before_0) (some a0_before_1) (some a0_before_2) (some a0_before_3))))))), (a0_before_0, .inr (5, [.ref a0_before_0_rows, .int v0_before_0_size]))] H := hP
  have hD : va_D A [(a0, .inr (3, [.ref a0_before, .int (if ((1 : Int32) - (1 : Int32)) < (0 : Int32) then (0 : Int32) else ((1 : Int32) - (1 : Int32)))])), (a0_before, .inl (D.2 4, 4, .inr (.inr (.inr (.inr (zq4 (some a0_before_0) (some a0_before_1) (some a0_before_2) (some a0_before_3))))))), (a0_before_0, .inr (5, [.ref a0_before_0_rows, .int v0_before_0_size]))] := hD
  refine lv_aload_n hx hb dX4_takeLatest_14 rfl (lv_at hl 0 rfl) ?_
  refine va_get (D := D.1) (ci := 3) (v := .ref a0_before) (C := RX4) (T := TX4) (N := 2) hx hb hts hwX4 hown hK.1 hP 0 rfl rfl 0 (by decide) l11 (fun _ h9 => h9) rfl dX4_takeLatest_15 ?_
  refine lv_aload_n hx hb dX4_takeLatest_18 rfl (lv_at hl 0 rfl) ?_
  refine va_get (D := D.1) (ci := 3) (v := .int (if ((1 : Int32) - (1 : Int32)) < (0 : Int32) then (0 : Int32) else ((1 : Int32) - (1 : Int32)))) (C := RX4) (T := TX4) (N := 2) hx hb hts hwX4 hown hK.1 hP 0 rfl rfl 1 (by decide) l20 (fun _ h9 => h9) rfl dX4_takeLatest_19 ?_
  refine va_aldq hx hb hK.1 hP 1 4 rfl rfl (show ¬ ((if ((1 : Int32) - (1 : Int32)) < (0 : Int32) then (0 : Int32) else ((1 : Int32) - (1 : Int32))) < 0 ∨ 4 ≤ ((if ((1 : Int32) - (1 : Int32)) < (0 : Int32) then (0 : Int32) else ((1 : Int32) - (1 : Int32)))).toNatClampNeg) by decide) dX4_takeLatest_22 ?_
  refine W.eq (g2 := F0 m 23 ls [.ref a0_before_0]) rfl ?_
  have he := Option.some.inj hf
  rw [hQ]
  exact W.aret (v := .ref a0_before_0) hx hb hr (Or.inl ⟨_, rfl⟩) (Or.inr ⟨_, rfl⟩) (fun t ht hW => by rw [← he]; exact ⟨⟨(), a0_before_0, rfl, trivial, rfl, by rw [ht]; exact hP, hD⟩, hS.F ht⟩) hS.2.2 dX4_takeLatest_23
def fX4_takeLatest_2  : Option (Int32) :=
  some ((if ((2 : Int32) - (1 : Int32)) < (0 : Int32) then (0 : Int32) else ((2 : Int32) - (1 : Int32))))
set_option maxHeartbeats 4000000 in
set_option maxRecDepth 100000 in
theorem mX4_takeLatest_2 (l : Launch) (D : zG) (a0 : Nat) (a0_before : Nat) (a0_before_0 : Nat) (a0_before_1 : Nat) (a0_before_2 : Nat) (a0_before_3 : Nat) (a0_before_1_rows : Nat) (sz : Nat)  (v0_before_1_size : Int32)  (res : Int32) (hf : fX4_takeLatest_2 = some res) : Met l yX4_takeLatest wsX4_takeLatest ({ frames := 1, cells := 0, slots := 0, locals := 14 } : Room) (va_Pc [.ref a0] (zW D sz [(a0, .inr (3, [.ref a0_before, .int (2 : Int32)])), (a0_before, .inl (D.2 4, 4, .inr (.inr (.inr (.inr (zq4 (some a0_before_0) (some a0_before_1) (some a0_before_2) (some a0_before_3))))))), (a0_before_1, .inr (5, [.ref a0_before_1_rows, .int v0_before_1_size]))])) (va_Qr (fun (_ : Unit) => True) (fun _ a t => a = a0_before_1 ∧ zB D (va_A [(a0, .inr (3, [.ref a0_before, .int (2 : Int32)])), (a0_before, .inl (D.2 4, 4, .inr (.inr (.inr (.inr (zq4 (some a0_before_0) (some a0_before_1) (some a0_before_2) (some a0_before_3))))))), (a0_before_1, .inr (5, [.ref a0_before_1_rows, .int v0_before_1_size]))] sz) [(a0, .inr (3, [.ref a0_before, .int res])), (a0_before, .inl (D.2 4, 4, .inr (.inr (.inr (.inr (zq4 (some a0_before_0) (some a0_before_1) (some a0_before_2) (some a0_before_3))))))), (a0_before_1, .inr (5, [.ref a0_before_1_rows, .int v0_before_1_size]))] t) (va_A [(a0, .inr (3, [.ref a0_before, .int (2 : Int32)])), (a0_before, .inl (D.2 4, 4, .inr (.inr (.inr (.inr (zq4 (some a0_before_0) (some a0_before_1) (some a0_before_2) (some a0_before_3))))))), (a0_before_1, .inr (5, [.ref a0_before_1_rows, .int v0_before_1_size]))] sz)) 0 0 (va_A [(a0, .inr (3, [.ref a0_before, .int (2 : Int32)])), (a0_before, .inl (D.2 4, 4, .inr (.inr (.inr (.inr (zq4 (some a0_before_0) (some a0_before_1) (some a0_before_2) (some a0_before_3))))))), (a0_before_1, .inr (5, [.ref a0_before_1_rows, .int v0_before_1_size]))] sz) := by
  refine Met.ofW (cc := cX4_takeLatest) (maxL := 1) (ret := (some (.object "TurnedWords$Rising"))) (by decide) rfl ?_
  intro p e s m args below meth c s₁ B hml hv
  obtain ⟨rfl, hsz, hP, hK, hD0⟩ := hv
  have hx := B.exec
  have hb := B.bytes
  have hr := B.returns
  have hts := atoms_spec (ws := wsX4_takeLatest) B.pre
  have hown : s.vm.findClass RX4 = some m.cls := findClass_of_methodNamed B.named
  have hlocks := B.notSynchronized
  subst hsz
  have hD := hD0.self (sz := s.heap.size)
  generalize hAe : va_A [(a0, .inr (3, [.ref a0_before, .int (2 : Int32)])), (a0_before, .inl (D.2 4, 4, .inr (.inr (.inr (.inr (zq4 (some a0_before_0) (some a0_before_1) (some a0_before_2) (some a0_before_3))))))), (a0_before_1, .inr (5, [.ref a0_before_1_rows, .int v0_before_1_size]))] s.heap.size = A at hD ⊢
  have hA : ∀ q : Nat, s.heap.size ≤ q → A q := fun q h => by rw [← hAe]; exact Or.inr h
  have l20 := zat hts 1 (w := .fieldLink RX4 20 "TurnedWords$Merges" "size" "I") rfl
  have l31 := zat hts 2 (w := .methodLink RX4 31 Lib.Math.max.name) rfl
  have hstmax := zat hts 3 (w := .static Lib.Math.max.name) rfl
  have hinM := zat hts 4 (w := .initialized "java/lang/Math") rfl
  have hcdmax := zat hts 5 (w := .code Lib.Math.max.name Lib.Math.max.code 2 (some .int)) rfl
  have l11 := zat hts 6 (w := .fieldLink RX4 11 "TurnedWords$Merges" "before" "[LTurnedWords$Rising;") rfl
  have hwX4 : ∀ w ∈ u_ws RX4 TX4 2, w ∈ wsX4_takeLatest := fun w h => List.mem_cons_of_mem _ (List.mem_append_right _ h)
  have hl := lv_entry ([.ref a0]) (n := 1) (Nat.le_of_ble_eq_true rfl)
  rw [lg_entry_eq]
  generalize (lg_sl ([.ref a0]) ++ List.replicate (1 - (lg_sl ([.ref a0])).length) Slot.unset).toArray = ls at hl ⊢
  have hl : lv_has ls 1 [(0, .ref a0)] := hl
  refine zStart (A := A) hP (fun Q0 H locs hQ hP hS => ?_)
  unfold fX4_takeLatest_2 at hf
  refine lv_aload_n hx hb dX4_takeLatest_0 rfl (lv_at hl 0 rfl) ?_
  refine lv_aload_n hx hb dX4_takeLatest_1 rfl (lv_at hl 0 rfl) ?_
  refine va_get (D := D.1) (ci := 3) (v := .int (2 : Int32)) (C := RX4) (T := TX4) (N := 2) hx hb hts hwX4 hown hK.1 hP 0 rfl rfl 1 (by decide) l20 (fun _ h9 => h9) rfl dX4_takeLatest_2 ?_
  refine lv_iconst (v := 1) hx hb dX4_takeLatest_5 (by decide) ?_
  refine lv_isub hx hb dX4_takeLatest_6 ?_
  refine lv_iconst (v := 0) hx hb dX4_takeLatest_7 (by decide) ?_
  refine va_mmax hx hb (hml.trans hl.1.symm) hown l31 hstmax hinM hcdmax (Nat.le_of_ble_eq_true rfl) (Nat.le_of_ble_eq_true rfl) (Nat.zero_le _) (Nat.zero_le _) dX4_takeLatest_8 ?_
  refine va_put (D := D.1) (ci := 3) (v := .int (if ((2 : Int32) - (1 : Int32)) < (0 : Int32) then (0 : Int32) else ((2 : Int32) - (1 : Int32)))) (ty := .int) (C := RX4) (T := TX4) (N := 2) hx hb hts hwX4 tyX4 tyX4_ok nmX4 hown hK.1 hP hD hS 0 rfl rfl 1 (by decide) l20 (fun _ h9 => h9) rfl (by decide +kernel) rfl rfl (Nat.le_of_ble_eq_true rfl) dX4_takeLatest_11 (fun H locs hP hD hS => ?_)
  have hP : va_P D.1 vwCl [(a0, .inr (3, [.ref a0_before, .int (if ((2 : Int32) - (1 : Int32)) < (0 : Int32) then (0 : Int32) else ((2 : Int32) - (1 : Int32)))])), (a0_before, .inl (D.2 4, 4, .inr (.inr (.inr (.inr (zq4 (some a0_before_0) (some a0_before_1) (some a0_before_2) (some a0_before_3))))))), (a0_before_1, .inr (5, [.ref a0_before_1_rows, .int v0_before_1_size]))] H := hP
  have hD : va_D A [(a0, .inr (3, [.ref a0_before, .int (if ((2 : Int32) - (1 : Int32)) < (0 : Int32) then (0 : Int32) else ((2 : Int32) - (1 : Int32)))])), (a0_before, .inl (D.2 4, 4, .inr (.inr (.inr (.inr (zq4 (some a0_before_0) (some a0_before_1) (some a0_before_2) (some a0_before_3))))))), (a0_before_1, .inr (5, [.ref a0_before_1_rows, .int v0_before_1_size]))] := hD
  refine lv_aload_n hx hb dX4_takeLatest_14 rfl (lv_at hl 0 rfl) ?_
  refine va_get (D := D.1) (ci := 3) (v := .ref a0_before) (C := RX4) (T := TX4) (N := 2) hx hb hts hwX4 hown hK.1 hP 0 rfl rfl 0 (by decide) l11 (fun _ h9 => h9) rfl dX4_takeLatest_15 ?_
  refine lv_aload_n hx hb dX4_takeLatest_18 rfl (lv_at hl 0 rfl) ?_
  refine va_get (D := D.1) (ci := 3) (v := .int (if ((2 : Int32) - (1 : Int32)) < (0 : Int32) then (0 : Int32) else ((2 : Int32) - (1 : Int32)))) (C := RX4) (T := TX4) (N := 2) hx hb hts hwX4 hown hK.1 hP 0 rfl rfl 1 (by decide) l20 (fun _ h9 => h9) rfl dX4_takeLatest_19 ?_
  refine va_aldq hx hb hK.1 hP 1 4 rfl rfl (show ¬ ((if ((2 : Int32) - (1 : Int32)) < (0 : Int32) then (0 : Int32) else ((2 : Int32) - (1 : Int32))) < 0 ∨ 4 ≤ ((if ((2 : Int32) - (1 : Int32)) < (0 : Int32) then (0 : Int32) else ((2 : Int32) - (1 : Int32)))).toNatClampNeg) by decide) dX4_takeLatest_22 ?_
  refine W.eq (g2 := F0 m 23 ls [.ref a0_before_1]) rfl ?_
  have he := Option.some.inj hf
  rw [hQ]
  exact W.aret (v := .ref a0_before_1) hx hb hr (Or.inl ⟨_, rfl⟩) (Or.inr ⟨_, rfl⟩) (fun t ht hW => by rw [← he]; exact ⟨⟨(), a0_before_1, rfl, trivial, rfl, by rw [ht]; exact hP, hD⟩, hS.F ht⟩) hS.2.2 dX4_takeLatest_23
