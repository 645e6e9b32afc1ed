def fX4_takeLatest_3  : Option (Int32) :=
  some ((if ((3 : Int32) - (1 : Int32)) < (0 : Int32) then (0 : Int32) else ((3 : Int32) - (1 : Int32))))
set_option maxHeartbeats 4000000 in
set_option maxRecDepth 100000 in
theorem mX4_takeLatest_3 (l : Launch) (D : zG) (a0 : Nat) (a0_before : Nat) (a0_before_0 : Nat) (a0_before_1 : Nat) (a0_before_2 : Nat) (a0_before_3 : Nat) (a0_before_2_rows : Nat) (sz : Nat)  (v0_before_2_size : Int32)  (res : Int32) (hf : fX4_takeLatest_3 = some res) : Met l yX4_takeLatest wsX4_takeLatest ({ frames := 1, cells := 0, slots := 0, locals := 14 } : Room) (va_Pc [.ref a0] (zW D sz [(a0, .inr (3, [.ref a0_before, .int (3 : Int32)])), (a0_before, .inl (D.2 4, 4, .inr (.inr (.inr (.inr (zq4 (some a0_before_0) (some a0_before_1) (some a0_before_2) (some a0_before_3))))))), (a0_before_2, .inr (5, [.ref a0_before_2_rows, .int v0_before_2_size]))])) (va_Qr (fun (_ : Unit) => True) (fun _ a t => a = a0_before_2 ∧ zB D (va_A [(a0, .inr (3, [.ref a0_before, .int (3 : Int32)])), (a0_before, .inl (D.2 4, 4, .inr (.inr (.inr (.inr (zq4 (some a0_before_0) (some a0_before_1) (some a0_before_2) (some a0_before_3))))))), (a0_before_2, .inr (5, [.ref a0_before_2_rows, .int v0_before_2_size]))] sz) [(a0, .inr (3, [.ref a0_before, .int res])), (a0_before, .inl (D.2 4, 4, .inr (.inr (.inr (.inr (zq4 (some a0_before_0) (some a0_before_1) (some a0_before_2) (some a0_before_3))))))), (a0_before_2, .inr (5, [.ref a0_before_2_rows, .int v0_before_2_size]))] t) (va_A [(a0, .inr (3, [.ref a0_before, .int (3 : Int32)])), (a0_before, .inl (D.2 4, 4, .inr (.inr (.inr (.inr (zq4 (some a0_before_0) (some a0_before_1) (some a0_before_2) (some a0_before_3))))))), (a0_before_2, .inr (5, [.ref a0_before_2_rows, .int v0_before_2_size]))] sz)) 0 0 (va_A [(a0, .inr (3, [.ref a0_before, .int (3 : Int32)])), (a0_before, .inl (D.2 4, 4, .inr (.inr (.inr (.inr (zq4 (some a0_before_0) (some a0_before_1) (some a0_before_2) (some a0_before_3))))))), (a0_before_2, .inr (5, [.ref a0_before_2_rows, .int v0_before_2_size]))] sz) := by
  refine Met.ofW (cc := cX4_takeLatest) (maxL := 1) (ret := (some (.object "TurnedWords$Rising"))) (by decide) rfl ?_
  intro p e s m args below meth c s₁ B hml hv
  obtain ⟨rfl, hsz, hP, hK, hD0⟩ := hv
  have hx := B.exec
  have hb := B.bytes
  have hr := B.returns
  have hts := atoms_spec (ws := wsX4_takeLatest) B.pre
  have hown : s.vm.findClass RX4 = some m.cls := findClass_of_methodNamed B.named
  have hlocks := B.notSynchronized
  subst hsz
  have hD := hD0.self (sz := s.heap.size)
  generalize hAe : va_A [(a0, .inr (3, [.ref a0_before, .int (3 : Int32)])), (a0_before, .inl (D.2 4, 4, .inr (.inr (.inr (.inr (zq4 (some a0_before_0) (some a0_before_1) (some a0_before_2) (some a0_before_3))))))), (a0_before_2, .inr (5, [.ref a0_before_2_rows, .int v0_before_2_size]))] s.heap.size = A at hD ⊢
  have hA : ∀ q : Nat, s.heap.size ≤ q → A q := fun q h => by rw [← hAe]; exact Or.inr h
  have l20 := zat hts 1 (w := .fieldLink RX4 20 "TurnedWords$Merges" "size" "I") rfl
  have l31 := zat hts 2 (w := .methodLink RX4 31 Lib.Math.max.name) rfl
  have hstmax := zat hts 3 (w := .static Lib.Math.max.name) rfl
  have hinM := zat hts 4 (w := .initialized "java/lang/Math") rfl
  have hcdmax := zat hts 5 (w := .code Lib.Math.max.name Lib.Math.max.code 2 (some .int)) rfl
  have l11 := zat hts 6 (w := .fieldLink RX4 11 "TurnedWords$Merges" "before" "[LTurnedWords$Rising;") rfl
  have hwX4 : ∀ w ∈ u_ws RX4 TX4 2, w ∈ wsX4_takeLatest := fun w h => List.mem_cons_of_mem _ (List.mem_append_right _ h)
  have hl := lv_entry ([.ref a0]) (n := 1) (Nat.le_of_ble_eq_true rfl)
  rw [lg_entry_eq]
  generalize (lg_sl ([.ref a0]) ++ List.replicate (1 - (lg_sl ([.ref a0])).length) Slot.unset).toArray = ls at hl ⊢
  have hl : lv_has ls 1 [(0, .ref a0)] := hl
  refine zStart (A := A) hP (fun Q0 H locs hQ hP hS => ?_)
  unfold fX4_takeLatest_3 at hf
  refine lv_aload_n hx hb dX4_takeLatest_0 rfl (lv_at hl 0 rfl) ?_
  refine lv_aload_n hx hb dX4_takeLatest_1 rfl (lv_at hl 0 rfl) ?_
  refine va_get (D := D.1) (ci := 3) (v := .int (3 : Int32)) (C := RX4) (T := TX4) (N := 2) hx hb hts hwX4 hown hK.1 hP 0 rfl rfl 1 (by decide) l20 (fun _ h9 => h9) rfl dX4_takeLatest_2 ?_
  refine lv_iconst (v := 1) hx hb dX4_takeLatest_5 (by decide) ?_
  refine lv_isub hx hb dX4_takeLatest_6 ?_
  refine lv_iconst (v := 0) hx hb dX4_takeLatest_7 (by decide) ?_
  refine va_mmax hx hb (hml.trans hl.1.symm) hown l31 hstmax hinM hcdmax (Nat.le_of_ble_eq_true rfl) (Nat.le_of_ble_eq_true rfl) (Nat.zero_le _) (Nat.zero_le _) dX4_takeLatest_8 ?_
  refine va_put (D := D.1) (ci := 3) (v := .int (if ((3 : Int32) - (1 : Int32)) < (0 : Int32) then (0 : Int32) else ((3 : Int32) - (1 : Int32)))) (ty := .int) (C := RX4) (T := TX4) (N := 2) hx hb hts hwX4 tyX4 tyX4_ok nmX4 hown hK.1 hP hD hS 0 rfl rfl 1 (by decide) l20 (fun _ h9 => h9) rfl (by decide +kernel) rfl rfl (Nat.le_of_ble_eq_true rfl) dX4_takeLatest_11 (fun H locs hP hD hS => ?_)
  have hP : va_P D.1 vwCl [(a0, .inr (3, [.ref a0_before, .int (if ((3 : Int32) - (1 : Int32)) < (0 : Int32) then (0 : Int32) else ((3 : Int32) - (1 : Int32)))])), (a0_before, .inl (D.2 4, 4, .inr (.inr (.inr (.inr (zq4 (some a0_before_0) (some a0_before_1) (some a0_before_2) (some a0_before_3))))))), (a0_before_2, .inr (5, [.ref a0_before_2_rows, .int v0_before_2_size]))] H := hP
  have hD : va_D A [(a0, .inr (3, [.ref a0_before, .int (if ((3 : Int32) - (1 : Int32)) < (0 : Int32) then (0 : Int32) else ((3 : Int32) - (1 : Int32)))])), (a0_before, .inl (D.2 4, 4, .inr (.inr (.inr (.inr (zq4 (some a0_before_0) (some a0_before_1) (some a0_before_2) (some a0_before_3))))))), (a0_before_2, .inr (5, [.ref a0_before_2_rows, .int v0_before_2_size]))] := hD
  refine lv_aload_n hx hb dX4_takeLatest_14 rfl (lv_at hl 0 rfl) ?_
  refine va_get (D := D.1) (ci := 3) (v := .ref a0_before) (C := RX4) (T := TX4) (N := 2) hx hb hts hwX4 hown hK.1 hP 0 rfl rfl 0 (by decide) l11 (fun _ h9 => h9) rfl dX4_takeLatest_15 ?_
  refine lv_aload_n hx hb dX4_takeLatest_18 rfl (lv_at hl 0 rfl) ?_
  refine va_get (D := D.1) (ci := 3) (v := .int (if ((3 : Int32) - (1 : Int32)) < (0 : Int32) then (0 : Int32) else ((3 : Int32) - (1 : Int32)))) (C := RX4) (T := TX4) (N := 2) hx hb hts hwX4 hown hK.1 hP 0 rfl rfl 1 (by decide) l20 (fun _ h9 => h9) rfl dX4_takeLatest_19 ?_
  refine va_aldq hx hb hK.1 hP 1 4 rfl rfl (show ¬ ((if ((3 : Int32) - (1 : Int32)) < (0 : Int32) then (0 : Int32) else ((3 : Int32) - (1 : Int32))) < 0 ∨ 4 ≤ ((if ((3 : Int32) - (1 : Int32)) < (0 : Int32) then (0 : Int32) else ((3 : Int32) - (1 : Int32)))).toNatClampNeg) by decide) dX4_takeLatest_22 ?_
  refine W.eq (g2 := F0 m 23 ls [.ref a0_before_2]) rfl ?_
  have he := Option.some.inj hf
  rw [hQ]
  exact W.aret (v := .ref a0_before_2) hx hb hr (Or.inl ⟨_, rfl⟩) (Or.inr ⟨_, rfl⟩) (fun t ht hW => by rw [← he]; exact ⟨⟨(), a0_before_2, rfl, trivial, rfl, by rw [ht]; exact hP, hD⟩, hS.F ht⟩) hS.2.2 dX4_takeLatest_23
def fX4_takeLatest_4  : Option (Int32) :=
  some ((if ((4 : Int32) - (1 : Int32)) < (0 : Int32) then (0 : Int32) else ((4 : Int32) - (1 : Int32))))
set_option maxHeartbeats 4000000 in
set_option maxRecDepth 100000 in
theorem mX4_takeLatest_4 (l : Launch) (D : zG) (a0 : Nat) (a0_before : Nat) (a0_before_0 : Nat) (a0_before_1 : Nat) (a0_before_2 : Nat) (a0_before_3 : Nat) (a0_before_3_rows : Nat) (sz : Nat)  (v0_before_3_size : Int32)  (res : Int32) (hf : fX4_takeLatest_4 = some res) : Met l yX4_takeLatest wsX4_takeLatest ({ frames := 1, cells := 0, slots := 0, locals := 14 } : Room) (va_Pc [.ref a0] (zW D sz [(a0, .inr (3, [.ref a0_before, .int (4 : Int32)])), (a0_before, .inl (D.2 4, 4, .inr (.inr (.inr (.inr (zq4 (some a0_before_0) (some a0_before_1) (some a0_before_2) (some a0_before_3))))))), (a0_before_3, .inr (5, [.ref a0_before_3_rows, .int v0_before_3_size]))])) (va_Qr (fun (_ : Unit) => True) (fun _ a t => a = a0_before_3 ∧ zB D (va_A [(a0, .inr (3, [.ref a0_before, .int (4 : Int32)])), (a0_before, .inl (D.2 4, 4, .inr (.inr (.inr (.inr (zq4 (some a0_before_0) (some a0_before_1) (some a0_before_2) (some a0_before_3))))))), (a0_before_3, .inr (5, [.ref a0_before_3_rows, .int v0_before_3_size]))] sz) [(a0, .inr (3, [.ref a0_before, .int res])), (a0_before, .inl (D.2 4, 4, .inr (.inr (.inr (.inr (zq4 (some a0_before_0) (some a0_before_1) (some a0_before_2) (some a0_before_3))))))), (a0_before_3, .inr (5, [.ref a0_before_3_rows, .int v0_before_3_size]))] t) (va_A [(a0, .inr (3, [.ref a0_before, .int (4 : Int32)])), (a0_before, .inl (D.2 4, 4, .inr (.inr (.inr (.inr (zq4 (some a0_before_0) (some a0_before_1) (some a0_before_2) (some a0_before_3))))))), (a0_before_3, .inr (5, [.ref a0_before_3_rows, .int v0_before_3_size]))] sz)) 0 0 (va_A [(a0, .inr (3, [.ref a0_before, .int (4 : Int32)])), (a0_before, .inl (D.2 4, 4, .inr (.inr (.inr (.inr (zq4 (some a0_before_0) (some a0_before_1) (some a0_before_2) (some a0_before_3))))))), (a0_before_3, .inr (5, [.ref a0_before_3_rows, .int v0_before_3_size]))] sz) := by
  refine Met.ofW (cc := cX4_takeLatest) (maxL := 1) (ret := (some (.object "TurnedWords$Rising"))) (by decide) rfl ?_
  intro p e s m args below meth c s₁ B hml hv
  obtain ⟨rfl, hsz, hP, hK, hD0⟩ := hv
  have hx := B.exec
  have hb := B.bytes
  have hr := B.returns
  have hts := atoms_spec (ws := wsX4_takeLatest) B.pre
  have hown : s.vm.findClass RX4 = some m.cls := findClass_of_methodNamed B.named
  have hlocks := B.notSynchronized
  subst hsz
  have hD := hD0.self (sz := s.heap.size)
  generalize hAe : va_A [(a0, .inr (3, [.ref a0_before, .int (4 : Int32)])), (a0_before, .inl (D.2 4, 4, .inr (.inr (.inr (.inr (zq4 (some a0_before_0) (some a0_before_1) (some a0_before_2) (some a0_before_3))))))), (a0_before_3, .inr (5, [.ref a0_before_3_rows, .int v0_before_3_size]))] s.heap.size = A at hD ⊢
  have hA : ∀ q : Nat, s.heap.size ≤ q → A q := fun q h => by rw [← hAe]; exact Or.inr h
  have l20 := zat hts 1 (w := .fieldLink RX4 20 "TurnedWords$Merges" "size" "I") rfl
  have l31 := zat hts 2 (w := .methodLink RX4 31 Lib.Math.max.name) rfl
  have hstmax := zat hts 3 (w := .static Lib.Math.max.name) rfl
  have hinM := zat hts 4 (w := .initialized "java/lang/Math") rfl
  have hcdmax := zat hts 5 (w := .code Lib.Math.max.name Lib.Math.max.code 2 (some .int)) rfl
  have l11 := zat hts 6 (w := .fieldLink RX4 11 "TurnedWords$Merges" "before" "[LTurnedWords$Rising;") rfl
  have hwX4 : ∀ w ∈ u_ws RX4 TX4 2, w ∈ wsX4_takeLatest := fun w h => List.mem_cons_of_mem _ (List.mem_append_right _ h)
  have hl := lv_entry ([.ref a0]) (n := 1) (Nat.le_of_ble_eq_true rfl)
  rw [lg_entry_eq]
  generalize (lg_sl ([.ref a0]) ++ List.replicate (1 - (lg_sl ([.ref a0])).length) Slot.unset).toArray = ls at hl ⊢
  have hl : lv_has ls 1 [(0, .ref a0)] := hl
  refine zStart (A := A) hP (fun Q0 H locs hQ hP hS => ?_)
  unfold fX4_takeLatest_4 at hf
  refine lv_aload_n hx hb dX4_takeLatest_0 rfl (lv_at hl 0 rfl) ?_
  refine lv_aload_n hx hb dX4_takeLatest_1 rfl (lv_at hl 0 rfl) ?_
  refine va_get (D := D.1) (ci := 3) (v := .int (4 : Int32)) (C := RX4) (T := TX4) (N := 2) hx hb hts hwX4 hown hK.1 hP 0 rfl rfl 1 (by decide) l20 (fun _ h9 => h9) rfl dX4_takeLatest_2 ?_
  refine lv_iconst (v := 1) hx hb dX4_takeLatest_5 (by decide) ?_
  refine lv_isub hx hb dX4_takeLatest_6 ?_
  refine lv_iconst (v := 0) hx hb dX4_takeLatest_7 (by decide) ?_
  refine va_mmax hx hb (hml.trans hl.1.symm) hown l31 hstmax hinM hcdmax (Nat.le_of_ble_eq_true rfl) (Nat.le_of_ble_eq_true rfl) (Nat.zero_le _) (Nat.zero_le _) dX4_takeLatest_8 ?_
  refine va_put (D := D.1) (ci := 3) (v := .int (if ((4 : Int32) - (1 : Int32)) < (0 : Int32) then (0 : Int32) else ((4 : Int32) - (1 : Int32)))) (ty := .int) (C := RX4) (T := TX4) (N := 2) hx hb hts hwX4 tyX4 tyX4_ok nmX4 hown hK.1 hP hD hS 0 rfl rfl 1 (by decide) l20 (fun _ h9 => h9) rfl (by decide +kernel) rfl rfl (Nat.le_of_ble_eq_true rfl) dX4_takeLatest_11 (fun H locs hP hD hS => ?_)
  have hP : va_P D.1 vwCl [(a0, .inr (3, [.ref a0_before, .int (if ((4 : Int32) - (1 : Int32)) < (0 : Int32) then (0 : Int32) else ((4 : Int32) - (1 : Int32)))])), (a0_before, .inl (D.2 4, 4, .inr (.inr (.inr (.inr (zq4 (some a0_before_0) (some a0_before_1) (some a0_before_2) (some a0_before_3))))))), (a0_before_3, .inr (5, [.ref a0_before_3_rows, .int v0_before_3_size]))] H := hP
  have hD : va_D A [(a0, .inr (3, [.ref a0_before, .int (if ((4 : Int32) - (1 : Int32)) < (0 : Int32) then (0 : Int32) else ((4 : Int32) - (1 : Int32)))])), (a0_before, .inl (D.2 4, 4, .inr (.inr (.inr (.inr (zq4 (some a0_before_0) (some a0_before_1) (some a0_before_2) (some a0_before_3))))))), (a0_before_3, .inr (5, [.ref a0_before_3_rows, .int v0_before_3_size]))] := hD
  refine lv_aload_n hx hb dX4_takeLatest_14 rfl (lv_at hl 0 rfl) ?_
  refine va_get (D := D.1) (ci := 3) (v := .ref a0_before) (C := RX4) (T := TX4) (N := 2) hx hb hts hwX4 hown hK.1 hP 0 rfl rfl 0 (by decide) l11 (fun _ h9 => h9) rfl dX4_takeLatest_15 ?_
  refine lv_aload_n hx hb dX4_takeLatest_18 rfl (lv_at hl 0 rfl) ?_
  refine va_get (D := D.1) (ci := 3) (v := .int (if ((4 : Int32) - (1 : Int32)) < (0 : Int32) then (0 : Int32) else ((4 : Int32) - (1 : Int32)))) (C := RX4) (T := TX4) (N := 2) hx hb hts hwX4 hown hK.1 hP 0 rfl rfl 1 (by decide) l20 (fun _ h9 => h9) rfl dX4_takeLatest_19 ?_
  refine va_aldq hx hb hK.1 hP 1 4 rfl rfl (show ¬ ((if ((4 : Int32) - (1 : Int32)) < (0 : Int32) then (0 : Int32) else ((4 : Int32) - (1 : Int32))) < 0 ∨ 4 ≤ ((if ((4 : Int32) - (1 : Int32)) < (0 : Int32) then (0 : Int32) else ((4 : Int32) - (1 : Int32)))).toNatClampNeg) by decide) dX4_takeLatest_22 ?_
  refine W.eq (g2 := F0 m 23 ls [.ref a0_before_3]) rfl ?_
  have he := Option.some.inj hf
  rw [hQ]
  exact W.aret (v := .ref a0_before_3) hx hb hr (Or.inl ⟨_, rfl⟩) (Or.inr ⟨_, rfl⟩) (fun t ht hW => by rw [← he]; exact ⟨⟨(), a0_before_3, rfl, trivial, rfl, by rw [ht]; exact hP, hD⟩, hS.F ht⟩) hS.2.2 dX4_takeLatest_23
def fX5_init  : Option (Int32 × (Nat → Int32)) :=
  if (0 : Int32) < 0 ∨ 12 ≤ ((0 : Int32)).toNatClampNeg then none else
  some ((1 : Int32), (upd (fun _ => (0 : Int32)) ((0 : Int32)).toNatClampNeg (42 : Int32)))
set_option maxHeartbeats 4000000 in
set_option maxRecDepth 100000 in
theorem mX5_init (l : Launch) (D : zG) (a0 : Nat) (sz : Nat)    (res : Int32 × (Nat → Int32)) (hf : fX5_init = some res) : Met l yX5_init wsX5_init ({ frames := 1, cells := 1, slots := 12, locals := 12 } : Room) (va_Pc [.ref a0] (zW D sz [(a0, .inr (4, [.null, .int (0 : Int32)]))])) (va_Qv (fun (_ : Nat) => True) (fun u => zB D (va_A [(a0, .inr (4, [.null, .int (0 : Int32)]))] sz) [(a0, .inr (4, [.ref u, .int res.1])), (u, .inl (D.2 1, 12, .inl res.2))]) (va_A [(a0, .inr (4, [.null, .int (0 : Int32)]))] sz)) 1 12 (va_A [(a0, .inr (4, [.null, .int (0 : Int32)]))] sz) := by
  refine Met.ofW (cc := cX5_init) (maxL := 1) (ret := none) (by decide) rfl ?_
  intro p e s m args below meth c s₁ B hml hv
  obtain ⟨rfl, hsz, hP, hK, hD0⟩ := hv
  have hx := B.exec
  have hb := B.bytes
  have hr := B.returns
  have hts := atoms_spec (ws := wsX5_init) B.pre
  have hown : s.vm.findClass RX5 = some m.cls := findClass_of_methodNamed B.named
  have hlocks := B.notSynchronized
  have hin : meth.name = "<init>" := (name_of_methodNamed B.named B.method).1
  subst hsz
  have hD := hD0.self (sz := s.heap.size)
  generalize hAe : va_A [(a0, .inr (4, [.null, .int (0 : Int32)]))] s.heap.size = A at hD ⊢
  have hA : ∀ q : Nat, s.heap.size ≤ q → A q := fun q h => by rw [← hAe]; exact Or.inr h
  have l3 := zat hts 1 (w := .methodLink RX5 3 objectInit) rfl
  have hobji := zat hts 2 (w := .instanceMethod objectInit) rfl
  have hobjc := zat hts 3 (w := .code objectInit ⟨#[0xb1]⟩ 1 none) rfl
  have harrI := zat hts 4 (w := .arrayClass .int) rfl
  have l9 := zat hts 5 (w := .fieldLink RX5 9 "TurnedWords$Pattern" "signs" "[I") rfl
  have l15 := zat hts 6 (w := .fieldLink RX5 15 "TurnedWords$Pattern" "size" "I") rfl
  have hwX5 : ∀ w ∈ u_ws RX5 TX5 2, w ∈ wsX5_init := fun w h => List.mem_cons_of_mem _ (List.mem_append_right _ h)
  have hl := lv_entry ([.ref a0]) (n := 1) (Nat.le_of_ble_eq_true rfl)
  rw [lg_entry_eq]
  generalize (lg_sl ([.ref a0]) ++ List.replicate (1 - (lg_sl ([.ref a0])).length) Slot.unset).toArray = ls at hl ⊢
  have hl : lv_has ls 1 [(0, .ref a0)] := hl
  refine zStart (A := A) hP (fun Q0 H locs hQ hP hS => ?_)
  unfold fX5_init at hf
  refine lv_aload_n hx hb dX5_init_0 rfl (lv_at hl 0 rfl) ?_
  refine W.objInit hx hb hown l3 hobji hobjc rfl (by rw [hml]; exact hl.1) rfl dX5_init_1 (Nat.le_of_ble_eq_true rfl) (Nat.le_of_ble_eq_true rfl) ?_
  refine W.eq (g2 := F0 m 4 ls []) rfl ?_
  refine lv_aload_n hx hb dX5_init_4 rfl (lv_at hl 0 rfl) ?_
  refine lv_bipush (v := 12) hx hb dX5_init_5 (by decide) ?_
  refine va_newa (atype := .int) (n := (12 : Int32)) (a0 := (12, .inl (fun _ => (0 : Int32)))) hx hb harrI rfl hK.1 hP hD hS hA (fun _ => rfl) (by decide) (by decide) (Nat.le_of_ble_eq_true rfl) (Nat.le_of_ble_eq_true rfl) (Nat.le_of_ble_eq_true rfl) dX5_init_7 (fun q1 cA2 H hK9 hP hD hS => ?_)
  obtain rfl := zsame hK9 1 rfl (fun _ h => h)
  have hP : va_P D.1 vwCl [(a0, .inr (4, [.null, .int (0 : Int32)])), (q1, .inl (D.2 1, 12, .inl (fun _ => (0 : Int32))))] H := hP
  have hD : va_D A [(a0, .inr (4, [.null, .int (0 : Int32)])), (q1, .inl (D.2 1, 12, .inl (fun _ => (0 : Int32))))] := hD
  refine W.widen (k := 1) (n := 12) (Nat.le_of_ble_eq_true rfl) (Nat.le_of_ble_eq_true rfl) ?_
  refine va_putF (D := D.1) (ci := 4) (v := .ref q1) (ty := (.array .int)) (C := RX5) (T := TX5) (N := 2) hx hb hts hwX5 tyX5 tyX5_ok nmX5 hown hK.1 hP hD hS 0 rfl rfl 0 (by decide) l9 (fun _ h9 => h9) rfl hin rfl (by decide +kernel) rfl rfl (Nat.le_of_ble_eq_true rfl) dX5_init_9 (fun H locs hP hD hS => ?_)
  have hP : va_P D.1 vwCl [(a0, .inr (4, [.ref q1, .int (0 : Int32)])), (q1, .inl (D.2 1, 12, .inl (fun _ => (0 : Int32))))] H := hP
  have hD : va_D A [(a0, .inr (4, [.ref q1, .int (0 : Int32)])), (q1, .inl (D.2 1, 12, .inl (fun _ => (0 : Int32))))] := hD
  refine lv_aload_n hx hb dX5_init_12 rfl (lv_at hl 0 rfl) ?_
  refine va_get (D := D.1) (ci := 4) (v := .ref q1) (C := RX5) (T := TX5) (N := 2) hx hb hts hwX5 hown hK.1 hP 0 rfl rfl 0 (by decide) l9 (fun _ h9 => h9) rfl dX5_init_13 ?_
  refine lv_iconst (v := 0) hx hb dX5_init_16 (by decide) ?_
  refine lv_bipush (v := 42) hx hb dX5_init_17 (by decide) ?_
  obtain ⟨h_3, hf⟩ := gd hf
  refine va_iast hx hb hK.1 hP hD hS 1 1 rfl rfl h_3 dX5_init_19 (fun H locs hP hD hS => ?_)
  have hP : va_P D.1 vwCl [(a0, .inr (4, [.ref q1, .int (0 : Int32)])), (q1, .inl (D.2 1, 12, .inl (upd (fun _ => (0 : Int32)) ((0 : Int32)).toNatClampNeg (42 : Int32))))] H := hP
  have hD : va_D A [(a0, .inr (4, [.ref q1, .int (0 : Int32)])), (q1, .inl (D.2 1, 12, .inl (upd (fun _ => (0 : Int32)) ((0 : Int32)).toNatClampNeg (42 : Int32))))] := hD
  refine lv_aload_n hx hb dX5_init_20 rfl (lv_at hl 0 rfl) ?_
  refine lv_iconst (v := 1) hx hb dX5_init_21 (by decide) ?_
  refine va_put (D := D.1) (ci := 4) (v := .int (1 : Int32)) (ty := .int) (C := RX5) (T := TX5) (N := 2) hx hb hts hwX5 tyX5 tyX5_ok nmX5 hown hK.1 hP hD hS 0 rfl rfl 1 (by decide) l15 (fun _ h9 => h9) rfl (by decide +kernel) rfl rfl (Nat.le_of_ble_eq_true rfl) dX5_init_22 (fun H locs hP hD hS => ?_)
  have hP : va_P D.1 vwCl [(a0, .inr (4, [.ref q1, .int (1 : Int32)])), (q1, .inl (D.2 1, 12, .inl (upd (fun _ => (0 : Int32)) ((0 : Int32)).toNatClampNeg (42 : Int32))))] H := hP
  have hD : va_D A [(a0, .inr (4, [.ref q1, .int (1 : Int32)])), (q1, .inl (D.2 1, 12, .inl (upd (fun _ => (0 : Int32)) ((0 : Int32)).toNatClampNeg (42 : Int32))))] := hD
  have he := Option.some.inj hf
  rw [hQ]
  exact W.vret hx hb hr (fun t ht hW => by rw [← he]; exact ⟨⟨(q1), rfl, trivial, by rw [ht]; exact hP, hD⟩, hS.F ht⟩) hS.2.2 dX5_init_25
def fX11_isLetter (p0 : Int32) : Option (Int32) :=
  if p0 < (97 : Int32) then
    some ((0 : Int32))
  else
    if (122 : Int32) < p0 then
      some ((0 : Int32))
    else
      some ((1 : Int32))
set_option maxHeartbeats 4000000 in
set_option maxRecDepth 100000 in
theorem mX11_isLetter (l : Launch) (D : zG)  (sz : Nat)   (p0 : Int32) (res : Int32) (hf : fX11_isLetter p0 = some res) : Met l yX11_isLetter wsX11_isLetter ({ frames := 0, cells := 0, slots := 0, locals := 0 } : Room) (va_Pc [.int p0] (zW D sz [])) (va_Qi (fun r (_ : Unit) => r = res ∧ (r = 0 ∨ r = 1)) (fun _ => zB D (va_A [] sz) []) (va_A [] sz)) 0 0 (va_A [] sz) := by
  refine Met.ofW (cc := cX11_isLetter) (maxL := 1) (ret := (some .boolean)) (by decide) rfl ?_
  intro p e s m args below meth c s₁ B hml hv
  obtain ⟨rfl, hsz, hP, hK, hD0⟩ := hv
  have hx := B.exec
  have hb := B.bytes
  have hr := B.returns
  have hts := atoms_spec (ws := wsX11_isLetter) B.pre
  have hown : s.vm.findClass RX11 = some m.cls := findClass_of_methodNamed B.named
  have hlocks := B.notSynchronized
  subst hsz
  have hD := hD0.self (sz := s.heap.size)
  generalize hAe : va_A [] s.heap.size = A at hD ⊢
  have hA : ∀ q : Nat, s.heap.size ≤ q → A q := fun q h => by rw [← hAe]; exact Or.inr h
  have hl := lv_entry ([.int p0]) (n := 1) (Nat.le_of_ble_eq_true rfl)
  rw [lg_entry_eq]
  generalize (lg_sl ([.int p0]) ++ List.replicate (1 - (lg_sl ([.int p0])).length) Slot.unset).toArray = ls at hl ⊢
  have hl : lv_has ls 1 [(0, .int p0)] := hl
  refine zStart (A := A) hP (fun Q0 H locs hQ hP hS => ?_)
  unfold fX11_isLetter at hf
  refine lv_iload_n hx hb dX11_isLetter_0 rfl (lv_at hl 0 rfl) ?_
  refine lv_bipush (v := 97) hx hb dX11_isLetter_1 (by decide) ?_
  refine lv_icmp_lt (tgt := 16) hx hb dX11_isLetter_3 (by decide) (fun c_1 => ?_) (fun c_1 => ?_)
  · replace hf := ip c_1 hf
    refine lv_iconst (v := 0) hx hb dX11_isLetter_16 (by decide) ?_
    have he := Option.some.inj hf
    rw [hQ]
    exact W.zret (v := (0 : Int32)) hx hb hr (znb (Or.inl rfl)) (fun t ht hW => by rw [← he]; exact ⟨⟨(0 : Int32), (), rfl, ⟨rfl, Or.inl rfl⟩, by rw [ht]; exact hP, hD⟩, hS.F ht⟩) hS.2.2 dX11_isLetter_17
  · replace hf := im c_1 hf
    refine lv_iload_n hx hb dX11_isLetter_6 rfl (lv_at hl 0 rfl) ?_
    refine lv_bipush (v := 122) hx hb dX11_isLetter_7 (by decide) ?_
    refine lv_icmp_gt (tgt := 16) hx hb dX11_isLetter_9 (by decide) (fun c_2 => ?_) (fun c_2 => ?_)
    · replace hf := ip c_2 hf
      refine lv_iconst (v := 0) hx hb dX11_isLetter_16 (by decide) ?_
      have he := Option.some.inj hf
      rw [hQ]
      exact W.zret (v := (0 : Int32)) hx hb hr (znb (Or.inl rfl)) (fun t ht hW => by rw [← he]; exact ⟨⟨(0 : Int32), (), rfl, ⟨rfl, Or.inl rfl⟩, by rw [ht]; exact hP, hD⟩, hS.F ht⟩) hS.2.2 dX11_isLetter_17
    · replace hf := im c_2 hf
      refine lv_iconst (v := 1) hx hb dX11_isLetter_12 (by decide) ?_
      refine lv_goto (tgt := 17) hx hb dX11_isLetter_13 (by decide) ?_
      have he := Option.some.inj hf
      rw [hQ]
      exact W.zret (v := (1 : Int32)) hx hb hr (znb (Or.inr rfl)) (fun t ht hW => by rw [← he]; exact ⟨⟨(1 : Int32), (), rfl, ⟨rfl, Or.inr rfl⟩, by rw [ht]; exact hP, hD⟩, hS.F ht⟩) hS.2.2 dX11_isLetter_17
def fX5_isSign (p0 : Int32) : Option (Int32) :=
  Option.bind (fX11_isLetter p0) fun r1 =>
  if r1 = (0 : Int32) then
    if p0 = (63 : Int32) then
      some ((1 : Int32))
    else
      if p0 = (42 : Int32) then
        some ((1 : Int32))
      else
        some ((0 : Int32))
  else
    some ((1 : Int32))
set_option maxHeartbeats 4000000 in
set_option maxRecDepth 100000 in
theorem mX5_isSign (l : Launch) (D : zG)  (sz : Nat)   (p0 : Int32) (res : Int32) (hf : fX5_isSign p0 = some res) : Met l yX5_isSign wsX5_isSign ({ frames := 1, cells := 0, slots := 0, locals := 20 } : Room) (va_Pc [.int p0] (zW D sz [])) (va_Qi (fun r (_ : Unit) => r = res ∧ (r = 0 ∨ r = 1)) (fun _ => zB D (va_A [] sz) []) (va_A [] sz)) 0 0 (va_A [] sz) := by
  refine Met.ofW (cc := cX5_isSign) (maxL := 1) (ret := (some .boolean)) (by decide) rfl ?_
  intro p e s m args below meth c s₁ B hml hv
  obtain ⟨rfl, hsz, hP, hK, hD0⟩ := hv
  have hx := B.exec
  have hb := B.bytes
  have hr := B.returns
  have hts := atoms_spec (ws := wsX5_isSign) B.pre
  have hown : s.vm.findClass RX5 = some m.cls := findClass_of_methodNamed B.named
  have hlocks := B.notSynchronized
  subst hsz
  have hD := hD0.self (sz := s.heap.size)
  generalize hAe : va_A [] s.heap.size = A at hD ⊢
  have hA : ∀ q : Nat, s.heap.size ≤ q → A q := fun q h => by rw [← hAe]; exact Or.inr h
  have hst_X11_isLetter := zat hts 1 (w := .static yX11_isLetter) rfl
  have hin_X11 := zat hts 2 (w := .initialized RX11) rfl
  have hl := lv_entry ([.int p0]) (n := 1) (Nat.le_of_ble_eq_true rfl)
  rw [lg_entry_eq]
  generalize (lg_sl ([.int p0]) ++ List.replicate (1 - (lg_sl ([.int p0])).length) Slot.unset).toArray = ls at hl ⊢
  have hl : lv_has ls 1 [(0, .int p0)] := hl
  refine zStart (A := A) hP (fun Q0 H locs hQ hP hS => ?_)
  unfold fX5_isSign at hf
  refine lv_iload_n hx hb dX5_isSign_0 rfl (lv_at hl 0 rfl) ?_
  obtain ⟨r1, hr1, hf⟩ := bd hf
  refine zNz (As := [.int p0]) (rest := []) (wn := []) ⟨hx, hb, hml, hown, hts⟩ (mX11_isLetter l D H.size p0 r1 hr1) (⟨va_cnB 1 hts gX5_isSign_X11_isLetter_n19 rfl rfl rfl hK.2.1 hin_X11 (by decide +kernel) ⟨Nat.le_of_ble_eq_true rfl, Nat.le_of_ble_eq_true rfl⟩, hst_X11_isLetter, trivial⟩) hK hP hD hS hA [] [] [] rfl (by decide) rfl (by decide) (by decide) rfl (by decide) rfl hl.1 rfl (Nat.le_of_ble_eq_true rfl) dX5_isSign_1 ⟨Nat.zero_le _, Nat.zero_le _⟩ (fun H locs hb_2 hP hD hS => ?_)
  refine lv_if_ne (tgt := 19) hx hb dX5_isSign_4 (by decide) (fun c_3 => ?_) (fun c_3 => ?_)
  · replace hf := im c_3 hf
    refine lv_iconst (v := 1) hx hb dX5_isSign_19 (by decide) ?_
    refine lv_goto (tgt := 24) hx hb dX5_isSign_20 (by decide) ?_
    have he := Option.some.inj hf
    rw [hQ]
    exact W.zret (v := (1 : Int32)) hx hb hr (znb (Or.inr rfl)) (fun t ht hW => by rw [← he]; exact ⟨⟨(1 : Int32), (), rfl, ⟨rfl, Or.inr rfl⟩, by rw [ht]; exact hP, hD⟩, hS.F ht⟩) hS.2.2 dX5_isSign_24
  · replace hf := ip c_3 hf
    refine lv_iload_n hx hb dX5_isSign_7 rfl (lv_at hl 0 rfl) ?_
    refine lv_bipush (v := 63) hx hb dX5_isSign_8 (by decide) ?_
    refine lv_icmp_eq (tgt := 19) hx hb dX5_isSign_10 (by decide) (fun c_4 => ?_) (fun c_4 => ?_)
    · replace hf := ip c_4 hf
      refine lv_iconst (v := 1) hx hb dX5_isSign_19 (by decide) ?_
      refine lv_goto (tgt := 24) hx hb dX5_isSign_20 (by decide) ?_
      have he := Option.some.inj hf
      rw [hQ]
      exact W.zret (v := (1 : Int32)) hx hb hr (znb (Or.inr rfl)) (fun t ht hW => by rw [← he]; exact ⟨⟨(1 : Int32), (), rfl, ⟨rfl, Or.inr rfl⟩, by rw [ht]; exact hP, hD⟩, hS.F ht⟩) hS.2.2 dX5_isSign_24
    · replace hf := im c_4 hf
      refine lv_iload_n hx hb dX5_isSign_13 rfl (lv_at hl 0 rfl) ?_
      refine lv_bipush (v := 42) hx hb dX5_isSign_14 (by decide) ?_
      refine lv_icmp_ne (tgt := 23) hx hb dX5_isSign_16 (by decide) (fun c_5 => ?_) (fun c_5 => ?_)
      · replace hf := im c_5 hf
        refine lv_iconst (v := 0) hx hb dX5_isSign_23 (by decide) ?_
        have he := Option.some.inj hf
        rw [hQ]
        exact W.zret (v := (0 : Int32)) hx hb hr (znb (Or.inl rfl)) (fun t ht hW => by rw [← he]; exact ⟨⟨(0 : Int32), (), rfl, ⟨rfl, Or.inl rfl⟩, by rw [ht]; exact hP, hD⟩, hS.F ht⟩) hS.2.2 dX5_isSign_24
      · replace hf := ip c_5 hf
        refine lv_iconst (v := 1) hx hb dX5_isSign_19 (by decide) ?_
        refine lv_goto (tgt := 24) hx hb dX5_isSign_20 (by decide) ?_
        have he := Option.some.inj hf
        rw [hQ]
        exact W.zret (v := (1 : Int32)) hx hb hr (znb (Or.inr rfl)) (fun t ht hW => by rw [← he]; exact ⟨⟨(1 : Int32), (), rfl, ⟨rfl, Or.inr rfl⟩, by rw [ht]; exact hP, hD⟩, hS.F ht⟩) hS.2.2 dX5_isSign_24
def fX5_put (v0_size : Int32) (g0_signs : Nat → Int32) (p1 : Int32) (p2 : Int32) : Option ((Nat → Int32)) :=
  Option.bind (fX5_hasPlace v0_size p1) fun r1 =>
  if r1 = (0 : Int32) then
    some (g0_signs)
  else
    if p1 < 0 ∨ 12 ≤ (p1).toNatClampNeg then none else
    some ((upd g0_signs (p1).toNatClampNeg p2))
set_option maxHeartbeats 4000000 in
set_option maxRecDepth 100000 in
theorem mX5_put (l : Launch) (D : zG) (a0 : Nat) (a0_signs : Nat) (sz : Nat)  (v0_size : Int32) (g0_signs : Nat → Int32) (p1 : Int32) (p2 : Int32) (res : (Nat → Int32)) (hf : fX5_put v0_size g0_signs p1 p2 = some res) : Met l yX5_put wsX5_put ({ frames := 1, cells := 0, slots := 0, locals := 21 } : Room) (va_Pc [.ref a0, .int p1, .int p2] (zW D sz [(a0, .inr (4, [.ref a0_signs, .int v0_size])), (a0_signs, .inl (D.2 1, 12, .inl g0_signs))])) (va_Qv (fun (_ : Unit) => True) (fun _ => zB D (va_A [(a0, .inr (4, [.ref a0_signs, .int v0_size])), (a0_signs, .inl (D.2 1, 12, .inl g0_signs))] sz) [(a0, .inr (4, [.ref a0_signs, .int v0_size])), (a0_signs, .inl (D.2 1, 12, .inl res))]) (va_A [(a0, .inr (4, [.ref a0_signs, .int v0_size])), (a0_signs, .inl (D.2 1, 12, .inl g0_signs))] sz)) 0 0 (va_A [(a0, .inr (4, [.ref a0_signs, .int v0_size])), (a0_signs, .inl (D.2 1, 12, .inl g0_signs))] sz) := by
  refine Met.ofW (cc := cX5_put) (maxL := 3) (ret := none) (by decide) rfl ?_
  intro p e s m args below meth c s₁ B hml hv
  obtain ⟨rfl, hsz, hP, hK, hD0⟩ := hv
  have hx := B.exec
  have hb := B.bytes
  have hr := B.returns
  have hts := atoms_spec (ws := wsX5_put) B.pre
  have hown : s.vm.findClass RX5 = some m.cls := findClass_of_methodNamed B.named
  have hlocks := B.notSynchronized
  subst hsz
  have hD := hD0.self (sz := s.heap.size)
  generalize hAe : va_A [(a0, .inr (4, [.ref a0_signs, .int v0_size])), (a0_signs, .inl (D.2 1, 12, .inl g0_signs))] s.heap.size = A at hD ⊢
  have hA : ∀ q : Nat, s.heap.size ≤ q → A q := fun q h => by rw [← hAe]; exact Or.inr h
  have l9 := zat hts 1 (w := .fieldLink RX5 9 "TurnedWords$Pattern" "signs" "[I") rfl
  have hwX5 : ∀ w ∈ u_ws RX5 TX5 2, w ∈ wsX5_put := fun w h => List.mem_cons_of_mem _ (List.mem_append_right _ h)
  have hl := lv_entry ([.ref a0, .int p1, .int p2]) (n := 3) (Nat.le_of_ble_eq_true rfl)
  rw [lg_entry_eq]
  generalize (lg_sl ([.ref a0, .int p1, .int p2]) ++ List.replicate (3 - (lg_sl ([.ref a0, .int p1, .int p2])).length) Slot.unset).toArray = ls at hl ⊢
  have hl : lv_has ls 3 [(0, .ref a0), (1, .int p1), (2, .int p2)] := hl
  refine zStart (A := A) hP (fun Q0 H locs hQ hP hS => ?_)
  unfold fX5_put at hf
  refine lv_aload_n hx hb dX5_put_0 rfl (lv_at hl 0 rfl) ?_
  refine lv_iload_n hx hb dX5_put_1 rfl (lv_at hl 1 rfl) ?_
  obtain ⟨r1, hr1, hf⟩ := bd hf
  refine zVz (As := [.int p1]) (rest := []) (ci := 4) (q0 := 0) (wn := [(a0, .inr (4, [.ref a0_signs, .int v0_size])), (a0_signs, .inl (D.2 1, 12, .inl g0_signs))]) ⟨hx, hb, hml, hown, hts⟩ (mX5_hasPlace l D a0 a0_signs H.size v0_size p1 r1 hr1) (cwV 1 hts gX5_put_X5_hasPlace rfl rfl rfl (by decide +kernel) ⟨Nat.le_of_ble_eq_true rfl, Nat.le_of_ble_eq_true rfl⟩) hK hP hD hS hA [0] [1] [1, 0] rfl (by decide) rfl (by decide) (by decide) rfl (by decide) rfl rfl rfl hl.1 rfl (Nat.le_of_ble_eq_true rfl) dX5_put_2 ⟨Nat.zero_le _, Nat.zero_le _⟩ (fun H locs hb_2 hP hD hS => ?_)
  refine lv_if_eq (tgt := 15) hx hb dX5_put_5 (by decide) (fun c_3 => ?_) (fun c_3 => ?_)
  · replace hf := ip c_3 hf
    have he := Option.some.inj hf
    rw [hQ]
    exact W.vret hx hb hr (fun t ht hW => by rw [← he]; exact ⟨⟨(), rfl, trivial, by rw [ht]; exact hP, hD⟩, hS.F ht⟩) hS.2.2 dX5_put_15
  · replace hf := im c_3 hf
    refine lv_aload_n hx hb dX5_put_8 rfl (lv_at hl 0 rfl) ?_
    refine va_get (D := D.1) (ci := 4) (v := .ref a0_signs) (C := RX5) (T := TX5) (N := 2) hx hb hts hwX5 hown hK.1 hP 0 rfl rfl 0 (by decide) l9 (fun _ h9 => h9) rfl dX5_put_9 ?_
    refine lv_iload_n hx hb dX5_put_12 rfl (lv_at hl 1 rfl) ?_
    refine lv_iload_n hx hb dX5_put_13 rfl (lv_at hl 2 rfl) ?_
    obtain ⟨h_4, hf⟩ := gd hf
    refine va_iast hx hb hK.1 hP hD hS 1 1 rfl rfl h_4 dX5_put_14 (fun H locs hP hD hS => ?_)
    have hP : va_P D.1 vwCl [(a0, .inr (4, [.ref a0_signs, .int v0_size])), (a0_signs, .inl (D.2 1, 12, .inl (upd g0_signs (p1).toNatClampNeg p2)))] H := hP
    have hD : va_D A [(a0, .inr (4, [.ref a0_signs, .int v0_size])), (a0_signs, .inl (D.2 1, 12, .inl (upd g0_signs (p1).toNatClampNeg p2)))] := hD
    have he := Option.some.inj hf
    rw [hQ]
    exact W.vret hx hb hr (fun t ht hW => by rw [← he]; exact ⟨⟨(), rfl, trivial, by rw [ht]; exact hP, hD⟩, hS.F ht⟩) hS.2.2 dX5_put_15
def fX10_size (v0_size : Int32) : Option (Int32) :=
  some (v0_size)
set_option maxHeartbeats 4000000 in
set_option maxRecDepth 100000 in
theorem mX10_size (l : Launch) (D : zG) (a0 : Nat) (a0_bytes : Nat) (sz : Nat)  (v0_size : Int32)  (res : Int32) (hf : fX10_size v0_size = some res) : Met l yX10_size wsX10_size ({ frames := 0, cells := 0, slots := 0, locals := 0 } : Room) (va_Pc [.ref a0] (zW D sz [(a0, .inr (7, [.ref a0_bytes, .int v0_size]))])) (va_Qi (fun r (_ : Unit) => r = res) (fun _ => zB D (va_A [(a0, .inr (7, [.ref a0_bytes, .int v0_size]))] sz) [(a0, .inr (7, [.ref a0_bytes, .int v0_size]))]) (va_A [(a0, .inr (7, [.ref a0_bytes, .int v0_size]))] sz)) 0 0 (va_A [(a0, .inr (7, [.ref a0_bytes, .int v0_size]))] sz) := by
  refine Met.ofW (cc := cX10_size) (maxL := 1) (ret := (some .int)) (by decide) rfl ?_
  intro p e s m args below meth c s₁ B hml hv
  obtain ⟨rfl, hsz, hP, hK, hD0⟩ := hv
  have hx := B.exec
  have hb := B.bytes
  have hr := B.returns
  have hts := atoms_spec (ws := wsX10_size) B.pre
  have hown : s.vm.findClass RX10 = some m.cls := findClass_of_methodNamed B.named
  have hlocks := B.notSynchronized
  subst hsz
  have hD := hD0.self (sz := s.heap.size)
  generalize hAe : va_A [(a0, .inr (7, [.ref a0_bytes, .int v0_size]))] s.heap.size = A at hD ⊢
  have hA : ∀ q : Nat, s.heap.size ≤ q → A q := fun q h => by rw [← hAe]; exact Or.inr h
  have l15 := zat hts 1 (w := .fieldLink RX10 15 "TurnedWords$Tape" "size" "I") rfl
  have hwX10 : ∀ w ∈ u_ws RX10 TX10 2, w ∈ wsX10_size := fun w h => List.mem_cons_of_mem _ (List.mem_append_right _ h)
  have hl := lv_entry ([.ref a0]) (n := 1) (Nat.le_of_ble_eq_true rfl)
  rw [lg_entry_eq]
  generalize (lg_sl ([.ref a0]) ++ List.replicate (1 - (lg_sl ([.ref a0])).length) Slot.unset).toArray = ls at hl ⊢
  have hl : lv_has ls 1 [(0, .ref a0)] := hl
  refine zStart (A := A) hP (fun Q0 H locs hQ hP hS => ?_)
  unfold fX10_size at hf
  refine lv_aload_n hx hb dX10_size_0 rfl (lv_at hl 0 rfl) ?_
  refine va_get (D := D.1) (ci := 7) (v := .int v0_size) (C := RX10) (T := TX10) (N := 2) hx hb hts hwX10 hown hK.1 hP 0 rfl rfl 1 (by decide) l15 (fun _ h9 => h9) rfl dX10_size_1 ?_
  have he := Option.some.inj hf
  rw [hQ]
  exact W.iret (v := v0_size) hx hb hr (fun t ht hW => by rw [← he]; exact ⟨⟨v0_size, (), rfl, rfl, by rw [ht]; exact hP, hD⟩, hS.F ht⟩) hS.2.2 dX10_size_4
def fX10_at (v0_size : Int32) (g0_bytes : Nat → Int32) (p1 : Int32) : Option (Int32) :=
  if p1 < (0 : Int32) then
    some ((-1 : Int32))
  else
    if p1 < v0_size then
      if p1 < 0 ∨ 400 ≤ (p1).toNatClampNeg then none else
      some (((g0_bytes (p1).toNatClampNeg) &&& (255 : Int32)))
    else
      some ((-1 : Int32))
set_option maxHeartbeats 4000000 in
set_option maxRecDepth 100000 in
theorem mX10_at (l : Launch) (D : zG) (a0 : Nat) (a0_bytes : Nat) (sz : Nat)  (v0_size : Int32) (g0_bytes : Nat → Int32) (p1 : Int32) (res : Int32) (hf : fX10_at v0_size g0_bytes p1 = some res) : Met l yX10_at wsX10_at ({ frames := 0, cells := 0, slots := 0, locals := 0 } : Room) (va_Pc [.ref a0, .int p1] (zW D sz [(a0, .inr (7, [.ref a0_bytes, .int v0_size])), (a0_bytes, .inl (D.2 0, 400, .inl g0_bytes))])) (va_Qi (fun r (_ : Unit) => r = res) (fun _ => zB D (va_A [(a0, .inr (7, [.ref a0_bytes, .int v0_size])), (a0_bytes, .inl (D.2 0, 400, .inl g0_bytes))] sz) [(a0, .inr (7, [.ref a0_bytes, .int v0_size])), (a0_bytes, .inl (D.2 0, 400, .inl g0_bytes))]) (va_A [(a0, .inr (7, [.ref a0_bytes, .int v0_size])), (a0_bytes, .inl (D.2 0, 400, .inl g0_bytes))] sz)) 0 0 (va_A [(a0, .inr (7, [.ref a0_bytes, .int v0_size])), (a0_bytes, .inl (D.2 0, 400, .inl g0_bytes))] sz) := by
  refine Met.ofW (cc := cX10_at) (maxL := 2) (ret := (some .int)) (by decide) rfl ?_
  intro p e s m args below meth c s₁ B hml hv
  obtain ⟨rfl, hsz, hP, hK, hD0⟩ := hv
  have hx := B.exec
  have hb := B.bytes
  have hr := B.returns
  have hts := atoms_spec (ws := wsX10_at) B.pre
  have hown : s.vm.findClass RX10 = some m.cls := findClass_of_methodNamed B.named
  have hlocks := B.notSynchronized
  subst hsz
  have hD := hD0.self (sz := s.heap.size)
  generalize hAe : va_A [(a0, .inr (7, [.ref a0_bytes, .int v0_size])), (a0_bytes, .inl (D.2 0, 400, .inl g0_bytes))] s.heap.size = A at hD ⊢
  have hA : ∀ q : Nat, s.heap.size ≤ q → A q := fun q h => by rw [← hAe]; exact Or.inr h
  have l15 := zat hts 1 (w := .fieldLink RX10 15 "TurnedWords$Tape" "size" "I") rfl
  have l9 := zat hts 2 (w := .fieldLink RX10 9 "TurnedWords$Tape" "bytes" "[B") rfl
  have hwX10 : ∀ w ∈ u_ws RX10 TX10 2, w ∈ wsX10_at := fun w h => List.mem_cons_of_mem _ (List.mem_append_right _ h)
  have hl := lv_entry ([.ref a0, .int p1]) (n := 2) (Nat.le_of_ble_eq_true rfl)
  rw [lg_entry_eq]
  generalize (lg_sl ([.ref a0, .int p1]) ++ List.replicate (2 - (lg_sl ([.ref a0, .int p1])).length) Slot.unset).toArray = ls at hl ⊢
  have hl : lv_has ls 2 [(0, .ref a0), (1, .int p1)] := hl
  refine zStart (A := A) hP (fun Q0 H locs hQ hP hS => ?_)
  unfold fX10_at at hf
  refine lv_iload_n hx hb dX10_at_0 rfl (lv_at hl 1 rfl) ?_
  refine lv_if_lt (tgt := 12) hx hb dX10_at_1 (by decide) (fun c_1 => ?_) (fun c_1 => ?_)
  · replace hf := ip c_1 hf
    refine lv_iconst (v := -1) hx hb dX10_at_12 (by decide) ?_
    refine lv_goto (tgt := 26) hx hb dX10_at_13 (by decide) ?_
    have he := Option.some.inj hf
    rw [hQ]
    exact W.iret (v := (-1 : Int32)) hx hb hr (fun t ht hW => by rw [← he]; exact ⟨⟨(-1 : Int32), (), rfl, rfl, by rw [ht]; exact hP, hD⟩, hS.F ht⟩) hS.2.2 dX10_at_26
  · replace hf := im c_1 hf
    refine lv_iload_n hx hb dX10_at_4 rfl (lv_at hl 1 rfl) ?_
    refine lv_aload_n hx hb dX10_at_5 rfl (lv_at hl 0 rfl) ?_
    refine va_get (D := D.1) (ci := 7) (v := .int v0_size) (C := RX10) (T := TX10) (N := 2) hx hb hts hwX10 hown hK.1 hP 0 rfl rfl 1 (by decide) l15 (fun _ h9 => h9) rfl dX10_at_6 ?_
    refine lv_icmp_lt (tgt := 16) hx hb dX10_at_9 (by decide) (fun c_2 => ?_) (fun c_2 => ?_)
    · replace hf := ip c_2 hf
      refine lv_aload_n hx hb dX10_at_16 rfl (lv_at hl 0 rfl) ?_
      refine va_get (D := D.1) (ci := 7) (v := .ref a0_bytes) (C := RX10) (T := TX10) (N := 2) hx hb hts hwX10 hown hK.1 hP 0 rfl rfl 0 (by decide) l9 (fun _ h9 => h9) rfl dX10_at_17 ?_
      refine lv_iload_n hx hb dX10_at_20 rfl (lv_at hl 1 rfl) ?_
      obtain ⟨h_3, hf⟩ := gd hf
      refine va_bald hx hb hK.1 hP 1 0 rfl rfl h_3 dX10_at_21 ?_
      refine lv_sipush (v := 255) hx hb dX10_at_22 (by decide) ?_
      refine lv_iand hx hb dX10_at_25 ?_
      have he := Option.some.inj hf
      rw [hQ]
      exact W.iret (v := ((g0_bytes (p1).toNatClampNeg) &&& (255 : Int32))) hx hb hr (fun t ht hW => by rw [← he]; exact ⟨⟨((g0_bytes (p1).toNatClampNeg) &&& (255 : Int32)), (), rfl, rfl, by rw [ht]; exact hP, hD⟩, hS.F ht⟩) hS.2.2 dX10_at_26
    · replace hf := im c_2 hf
      refine lv_iconst (v := -1) hx hb dX10_at_12 (by decide) ?_
      refine lv_goto (tgt := 26) hx hb dX10_at_13 (by decide) ?_
      have he := Option.some.inj hf
      rw [hQ]
      exact W.iret (v := (-1 : Int32)) hx hb hr (fun t ht hW => by rw [← he]; exact ⟨⟨(-1 : Int32), (), rfl, rfl, by rw [ht]; exact hP, hD⟩, hS.F ht⟩) hS.2.2 dX10_at_26
def fX5_take_15 (N : Nat) (v1_size : Int32) (g1_bytes : Nat → Int32) : Nat → Int32 → Int32 → (Nat → Int32) → Option (Int32 × (Nat → Int32))
  | 0, _, _, _ => none
  | K + 1, x2, v0_size, g0_signs =>
    if v0_size ≤ x2 then
      some (v0_size, g0_signs)
    else
      Option.bind (fX10_at v1_size g1_bytes x2) fun r3 =>
      if x2 < 0 ∨ 12 ≤ (x2).toNatClampNeg then none else
      (fX5_take_15 N v1_size g1_bytes K) (x2 + (1 : Int32)) v0_size (upd g0_signs (x2).toNatClampNeg r3)
def fX5_take (N : Nat) (v0_size : Int32) (g0_signs : Nat → Int32) (v1_size : Int32) (g1_bytes : Nat → Int32) : Option (Int32 × (Nat → Int32)) :=
  Option.bind (fX10_size v1_size) fun r1 =>
  fX5_take_15 N v1_size g1_bytes N (0 : Int32) (if (12 : Int32) < r1 then (12 : Int32) else r1) g0_signs
set_option maxHeartbeats 4000000 in
set_option maxRecDepth 100000 in
theorem mX5_take (l : Launch) (D : zG) (a0 : Nat) (a0_signs : Nat) (a1 : Nat) (a1_bytes : Nat) (sz : Nat)  (v0_size : Int32) (g0_signs : Nat → Int32) (v1_size : Int32) (g1_bytes : Nat → Int32)  (N : Nat) (res : Int32 × (Nat → Int32)) (hf : fX5_take N v0_size g0_signs v1_size g1_bytes = some res) : Met l yX5_take wsX5_take ({ frames := 1, cells := 0, slots := 0, locals := 21 } : Room) (va_Pc [.ref a0, .ref a1] (zW D sz [(a0, .inr (4, [.ref a0_signs, .int v0_size])), (a0_signs, .inl (D.2 1, 12, .inl g0_signs)), (a1, .inr (7, [.ref a1_bytes, .int v1_size])), (a1_bytes, .inl (D.2 0, 400, .inl g1_bytes))])) (va_Qv (fun (_ : Unit) => True) (fun _ => zB D (va_A [(a0, .inr (4, [.ref a0_signs, .int v0_size])), (a0_signs, .inl (D.2 1, 12, .inl g0_signs)), (a1, .inr (7, [.ref a1_bytes, .int v1_size])), (a1_bytes, .inl (D.2 0, 400, .inl g1_bytes))] sz) [(a0, .inr (4, [.ref a0_signs, .int res.1])), (a0_signs, .inl (D.2 1, 12, .inl res.2)), (a1, .inr (7, [.ref a1_bytes, .int v1_size])), (a1_bytes, .inl (D.2 0, 400, .inl g1_bytes))]) (va_A [(a0, .inr (4, [.ref a0_signs, .int v0_size])), (a0_signs, .inl (D.2 1, 12, .inl g0_signs)), (a1, .inr (7, [.ref a1_bytes, .int v1_size])), (a1_bytes, .inl (D.2 0, 400, .inl g1_bytes))] sz)) 0 0 (va_A [(a0, .inr (4, [.ref a0_signs, .int v0_size])), (a0_signs, .inl (D.2 1, 12, .inl g0_signs)), (a1, .inr (7, [.ref a1_bytes, .int v1_size])), (a1_bytes, .inl (D.2 0, 400, .inl g1_bytes))] sz) := by
  refine Met.ofW (cc := cX5_take) (maxL := 3) (ret := none) (by decide) rfl ?_
  intro p e s m args below meth c s₁ B hml hv
  obtain ⟨rfl, hsz, hP, hK, hD0⟩ := hv
  have hx := B.exec
  have hb := B.bytes
  have hr := B.returns
  have hts := atoms_spec (ws := wsX5_take) B.pre
  have hown : s.vm.findClass RX5 = some m.cls := findClass_of_methodNamed B.named
  have hlocks := B.notSynchronized
  subst hsz
  have hD := hD0.self (sz := s.heap.size)
  generalize hAe : va_A [(a0, .inr (4, [.ref a0_signs, .int v0_size])), (a0_signs, .inl (D.2 1, 12, .inl g0_signs)), (a1, .inr (7, [.ref a1_bytes, .int v1_size])), (a1_bytes, .inl (D.2 0, 400, .inl g1_bytes))] s.heap.size = A at hD ⊢
  have hA : ∀ q : Nat, s.heap.size ≤ q → A q := fun q h => by rw [← hAe]; exact Or.inr h
  have l31 := zat hts 1 (w := .methodLink RX5 31 Lib.Math.min.name) rfl
  have hstmin := zat hts 2 (w := .static Lib.Math.min.name) rfl
  have hinM := zat hts 3 (w := .initialized "java/lang/Math") rfl
  have hcdmin := zat hts 4 (w := .code Lib.Math.min.name Lib.Math.min.code 2 (some .int)) rfl
  have l15 := zat hts 5 (w := .fieldLink RX5 15 "TurnedWords$Pattern" "size" "I") rfl
  have l9 := zat hts 6 (w := .fieldLink RX5 9 "TurnedWords$Pattern" "signs" "[I") rfl
  have hwX5 : ∀ w ∈ u_ws RX5 TX5 2, w ∈ wsX5_take := fun w h => List.mem_cons_of_mem _ (List.mem_append_left _ (List.mem_append_right _ h))
  have hl := lv_entry ([.ref a0, .ref a1]) (n := 3) (Nat.le_of_ble_eq_true rfl)
  rw [lg_entry_eq]
  generalize (lg_sl ([.ref a0, .ref a1]) ++ List.replicate (3 - (lg_sl ([.ref a0, .ref a1])).length) Slot.unset).toArray = ls at hl ⊢
  have hl : lv_has ls 3 [(0, .ref a0), (1, .ref a1)] := hl
  refine zStart (A := A) hP (fun Q0 H locs hQ hP hS => ?_)
  have k15 : ∀ K : Nat, ∀ (x2 : Int32) (v0_size : Int32) (g0_signs : Nat → Int32) (H : Heap) (locs : List Loc) (ls : Array Slot), fX5_take_15 N v1_size g1_bytes K x2 v0_size g0_signs = some res → va_P D.1 vwCl [(a0, .inr (4, [.ref a0_signs, .int v0_size])), (a0_signs, .inl (D.2 1, 12, .inl g0_signs)), (a1, .inr (7, [.ref a1_bytes, .int v1_size])), (a1_bytes, .inl (D.2 0, 400, .inl g1_bytes))] H → va_D A [(a0, .inr (4, [.ref a0_signs, .int v0_size])), (a0_signs, .inl (D.2 1, 12, .inl g0_signs)), (a1, .inr (7, [.ref a1_bytes, .int v1_size])), (a1_bytes, .inl (D.2 0, 400, .inl g1_bytes))] → va_S A s.heap H locs → lv_has ls 3 [(0, .ref a0), (1, .ref a1), (2, .int x2)] → W p l e (headSpec wsX5_take ({ frames := 1, cells := 0, slots := 0, locals := 21 } : Room)).room s m ([.ref a0, .ref a1] : List Value).toArray below meth c H locs 0 0 Q0 (F0 m 15 ls []) := by
    intro K
    induction K with
    | zero =>
      intro x2 v0_size g0_signs H locs ls hf
      rw [fX5_take_15] at hf
      cases hf
    | succ K ih =>
      intro x2 v0_size g0_signs H locs ls hf hP hD hS hl
      rw [fX5_take_15] at hf
      refine lv_iload_n hx hb dX5_take_15 rfl (lv_at hl 2 rfl) ?_
      refine lv_aload_n hx hb dX5_take_16 rfl (lv_at hl 0 rfl) ?_
      refine va_get (D := D.1) (ci := 4) (v := .int v0_size) (C := RX5) (T := TX5) (N := 2) hx hb hts hwX5 hown hK.1 hP 0 rfl rfl 1 (by decide) l15 (fun _ h9 => h9) rfl dX5_take_17 ?_
      refine lv_icmp_ge (tgt := 40) hx hb dX5_take_20 (by decide) (fun c_2 => ?_) (fun c_2 => ?_)
      · replace hf := ip c_2 hf
        have he := Option.some.inj hf
        rw [hQ]
        exact W.vret hx hb hr (fun t ht hW => by rw [← he]; exact ⟨⟨(), rfl, trivial, by rw [ht]; exact hP, hD⟩, hS.F ht⟩) hS.2.2 dX5_take_40
      · replace hf := im c_2 hf
        refine lv_aload_n hx hb dX5_take_23 rfl (lv_at hl 0 rfl) ?_
        refine va_get (D := D.1) (ci := 4) (v := .ref a0_signs) (C := RX5) (T := TX5) (N := 2) hx hb hts hwX5 hown hK.1 hP 0 rfl rfl 0 (by decide) l9 (fun _ h9 => h9) rfl dX5_take_24 ?_
        refine lv_iload_n hx hb dX5_take_27 rfl (lv_at hl 2 rfl) ?_
        refine lv_aload_n hx hb dX5_take_28 rfl (lv_at hl 1 rfl) ?_
        refine lv_iload_n hx hb dX5_take_29 rfl (lv_at hl 2 rfl) ?_
        obtain ⟨r3, hr3, hf⟩ := bd hf
        refine zVi (As := [.int x2]) (rest := [.int x2, .ref a0_signs]) (ci := 7) (q0 := 0) (wn := [(a0, .inr (4, [.ref a0_signs, .int v0_size])), (a0_signs, .inl (D.2 1, 12, .inl g0_signs)), (a1, .inr (7, [.ref a1_bytes, .int v1_size])), (a1_bytes, .inl (D.2 0, 400, .inl g1_bytes))]) ⟨hx, hb, hml, hown, hts⟩ (mX10_at l D a1 a1_bytes H.size v1_size g1_bytes x2 r3 hr3) (cwV 1 hts gX5_take_X10_at rfl rfl rfl (by decide +kernel) ⟨Nat.le_of_ble_eq_true rfl, Nat.le_of_ble_eq_true rfl⟩) hK hP hD hS hA [2, 3] [0, 1] [0, 1, 2, 3] rfl (by decide) rfl (by decide) (by decide) rfl (by decide) rfl rfl rfl hl.1 rfl (Nat.le_of_ble_eq_true rfl) dX5_take_30 ⟨Nat.zero_le _, Nat.zero_le _⟩ (fun H locs hP hD hS => ?_)
        obtain ⟨h_4, hf⟩ := gd hf
        refine va_iast hx hb hK.1 hP hD hS 1 1 rfl rfl h_4 dX5_take_33 (fun H locs hP hD hS => ?_)
        have hP : va_P D.1 vwCl [(a0, .inr (4, [.ref a0_signs, .int v0_size])), (a0_signs, .inl (D.2 1, 12, .inl (upd g0_signs (x2).toNatClampNeg r3))), (a1, .inr (7, [.ref a1_bytes, .int v1_size])), (a1_bytes, .inl (D.2 0, 400, .inl g1_bytes))] H := hP
        have hD : va_D A [(a0, .inr (4, [.ref a0_signs, .int v0_size])), (a0_signs, .inl (D.2 1, 12, .inl (upd g0_signs (x2).toNatClampNeg r3))), (a1, .inr (7, [.ref a1_bytes, .int v1_size])), (a1_bytes, .inl (D.2 0, 400, .inl g1_bytes))] := hD
        refine lv_iinc (v := (x2 + (1 : Int32))) (lv' := [(2, .int (x2 + (1 : Int32))), (0, .ref a0), (1, .ref a1)]) hx hb dX5_take_34 hl (k := 2) rfl rfl (by decide) rfl (fun ls hl => ?_)
        refine lv_goto (tgt := 15) hx hb dX5_take_37 (by decide) ?_
        exact ih (x2 + (1 : Int32)) v0_size (upd g0_signs (x2).toNatClampNeg r3) H locs ls hf hP hD hS (lv_sub hl [1, 2, 0] rfl)
  unfold fX5_take at hf
  refine lv_aload_n hx hb dX5_take_0 rfl (lv_at hl 0 rfl) ?_
  refine lv_aload_n hx hb dX5_take_1 rfl (lv_at hl 1 rfl) ?_
  obtain ⟨r1, hr1, hf⟩ := bd hf
  refine zVi (As := []) (rest := [.ref a0]) (ci := 7) (q0 := 0) (wn := [(a0, .inr (4, [.ref a0_signs, .int v0_size])), (a0_signs, .inl (D.2 1, 12, .inl g0_signs)), (a1, .inr (7, [.ref a1_bytes, .int v1_size])), (a1_bytes, .inl (D.2 0, 400, .inl g1_bytes))]) ⟨hx, hb, hml, hown, hts⟩ (mX10_size l D a1 a1_bytes H.size v1_size r1 hr1) (cwV 0 hts gX5_take_X10_size rfl rfl rfl (by decide +kernel) ⟨Nat.le_of_ble_eq_true rfl, Nat.le_of_ble_eq_true rfl⟩) hK hP hD hS hA [2] [0, 1, 3] [0, 1, 3, 2] rfl (by decide) rfl (by decide) (by decide) rfl (by decide) rfl rfl rfl hl.1 rfl (Nat.le_of_ble_eq_true rfl) dX5_take_2 ⟨Nat.zero_le _, Nat.zero_le _⟩ (fun H locs hP hD hS => ?_)
  refine lv_bipush (v := 12) hx hb dX5_take_5 (by decide) ?_
  refine va_mmin hx hb (hml.trans hl.1.symm) hown l31 hstmin hinM hcdmin (Nat.le_of_ble_eq_true rfl) (Nat.le_of_ble_eq_true rfl) (Nat.zero_le _) (Nat.zero_le _) dX5_take_7 ?_
  refine va_put (D := D.1) (ci := 4) (v := .int (if (12 : Int32) < r1 then (12 : Int32) else r1)) (ty := .int) (C := RX5) (T := TX5) (N := 2) hx hb hts hwX5 tyX5 tyX5_ok nmX5 hown hK.1 hP hD hS 0 rfl rfl 1 (by decide) l15 (fun _ h9 => h9) rfl (by decide +kernel) rfl rfl (Nat.le_of_ble_eq_true rfl) dX5_take_10 (fun H locs hP hD hS => ?_)
  have hP : va_P D.1 vwCl [(a0, .inr (4, [.ref a0_signs, .int (if (12 : Int32) < r1 then (12 : Int32) else r1)])), (a0_signs, .inl (D.2 1, 12, .inl g0_signs)), (a1, .inr (7, [.ref a1_bytes, .int v1_size])), (a1_bytes, .inl (D.2 0, 400, .inl g1_bytes))] H := hP
  have hD : va_D A [(a0, .inr (4, [.ref a0_signs, .int (if (12 : Int32) < r1 then (12 : Int32) else r1)])), (a0_signs, .inl (D.2 1, 12, .inl g0_signs)), (a1, .inr (7, [.ref a1_bytes, .int v1_size])), (a1_bytes, .inl (D.2 0, 400, .inl g1_bytes))] := hD
  refine lv_iconst (v := 0) hx hb dX5_take_13 (by decide) ?_
  refine lv_istore_n (lv' := [(2, .int (0 : Int32)), (0, .ref a0), (1, .ref a1)]) hx hb dX5_take_14 rfl hl (by decide) rfl (fun ls hl => ?_)
  exact k15 N (0 : Int32) (if (12 : Int32) < r1 then (12 : Int32) else r1) g0_signs H locs ls hf hP hD hS (lv_sub hl [1, 2, 0] rfl)
def fX5_copy (v0_size : Int32) (g0_signs : Nat → Int32) (v1_size : Int32) (g1_signs : Nat → Int32) : Option (Int32 × (Nat → Int32)) :=
  if (0 : Int32) < 0 ∨ (0 : Int32) < 0 ∨ v1_size < 0 ∨ 12 < ((0 : Int32)).toNatClampNeg + (v1_size).toNatClampNeg ∨ 12 < ((0 : Int32)).toNatClampNeg + (v1_size).toNatClampNeg then none else
  some (v1_size, (va_cpy g1_signs g0_signs ((0 : Int32)).toNatClampNeg ((0 : Int32)).toNatClampNeg (v1_size).toNatClampNeg))
set_option maxHeartbeats 4000000 in
set_option maxRecDepth 100000 in
theorem mX5_copy (l : Launch) (D : zG) (a0 : Nat) (a0_signs : Nat) (a1 : Nat) (a1_signs : Nat) (sz : Nat)  (v0_size : Int32) (g0_signs : Nat → Int32) (v1_size : Int32) (g1_signs : Nat → Int32)  (res : Int32 × (Nat → Int32)) (hf : fX5_copy v0_size g0_signs v1_size g1_signs = some res) : Met l yX5_copy wsX5_copy ({ frames := 1, cells := 0, slots := 0, locals := 40 } : Room) (va_Pc [.ref a0, .ref a1] (zW D sz [(a0, .inr (4, [.ref a0_signs, .int v0_size])), (a0_signs, .inl (D.2 1, 12, .inl g0_signs)), (a1, .inr (4, [.ref a1_signs, .int v1_size])), (a1_signs, .inl (D.2 1, 12, .inl g1_signs))])) (va_Qv (fun (_ : Unit) => True) (fun _ => zB D (va_A [(a0, .inr (4, [.ref a0_signs, .int v0_size])), (a0_signs, .inl (D.2 1, 12, .inl g0_signs)), (a1, .inr (4, [.ref a1_signs, .int v1_size])), (a1_signs, .inl (D.2 1, 12, .inl g1_signs))] sz) [(a0, .inr (4, [.ref a0_signs, .int res.1])), (a0_signs, .inl (D.2 1, 12, .inl res.2)), (a1, .inr (4, [.ref a1_signs, .int v1_size])), (a1_signs, .inl (D.2 1, 12, .inl g1_signs))]) (va_A [(a0, .inr (4, [.ref a0_signs, .int v0_size])), (a0_signs, .inl (D.2 1, 12, .inl g0_signs)), (a1, .inr (4, [.ref a1_signs, .int v1_size])), (a1_signs, .inl (D.2 1, 12, .inl g1_signs))] sz)) 0 0 (va_A [(a0, .inr (4, [.ref a0_signs, .int v0_size])), (a0_signs, .inl (D.2 1, 12, .inl g0_signs)), (a1, .inr (4, [.ref a1_signs, .int v1_size])), (a1_signs, .inl (D.2 1, 12, .inl g1_signs))] sz) := by
  refine Met.ofW (cc := cX5_copy) (maxL := 2) (ret := none) (by decide) rfl ?_
  intro p e s m args below meth c s₁ B hml hv
  obtain ⟨rfl, hsz, hP, hK, hD0⟩ := hv
  have hx := B.exec
  have hb := B.bytes
  have hr := B.returns
  have hts := atoms_spec (ws := wsX5_copy) B.pre
  have hown : s.vm.findClass RX5 = some m.cls := findClass_of_methodNamed B.named
  have hlocks := B.notSynchronized
  subst hsz
  have hD := hD0.self (sz := s.heap.size)
  generalize hAe : va_A [(a0, .inr (4, [.ref a0_signs, .int v0_size])), (a0_signs, .inl (D.2 1, 12, .inl g0_signs)), (a1, .inr (4, [.ref a1_signs, .int v1_size])), (a1_signs, .inl (D.2 1, 12, .inl g1_signs))] s.heap.size = A at hD ⊢
  have hA : ∀ q : Nat, s.heap.size ≤ q → A q := fun q h => by rw [← hAe]; exact Or.inr h
  have l15 := zat hts 1 (w := .fieldLink RX5 15 "TurnedWords$Pattern" "size" "I") rfl
  have l9 := zat hts 2 (w := .fieldLink RX5 9 "TurnedWords$Pattern" "signs" "[I") rfl
  have l41 := zat hts 3 (w := .methodLink RX5 41 arraycopyName) rfl
  have hnatA := zat hts 4 (w := .native arraycopyName) rfl
  have hstA := zat hts 5 (w := .static arraycopyName) rfl
  have hinS := zat hts 6 (w := .initialized "java/lang/System") rfl
  have hwX5 : ∀ w ∈ u_ws RX5 TX5 2, w ∈ wsX5_copy := fun w h => List.mem_cons_of_mem _ (List.mem_append_right _ h)
  have hl := lv_entry ([.ref a0, .ref a1]) (n := 2) (Nat.le_of_ble_eq_true rfl)
  rw [lg_entry_eq]
  generalize (lg_sl ([.ref a0, .ref a1]) ++ List.replicate (2 - (lg_sl ([.ref a0, .ref a1])).length) Slot.unset).toArray = ls at hl ⊢
  have hl : lv_has ls 2 [(0, .ref a0), (1, .ref a1)] := hl
  refine zStart (A := A) hP (fun Q0 H locs hQ hP hS => ?_)
  unfold fX5_copy at hf
  refine lv_aload_n hx hb dX5_copy_0 rfl (lv_at hl 0 rfl) ?_
  refine lv_aload_n hx hb dX5_copy_1 rfl (lv_at hl 1 rfl) ?_
  refine va_get (D := D.1) (ci := 4) (v := .int v1_size) (C := RX5) (T := TX5) (N := 2) hx hb hts hwX5 hown hK.1 hP 2 rfl rfl 1 (by decide) l15 (fun _ h9 => h9) rfl dX5_copy_2 ?_
  refine va_put (D := D.1) (ci := 4) (v := .int v1_size) (ty := .int) (C := RX5) (T := TX5) (N := 2) hx hb hts hwX5 tyX5 tyX5_ok nmX5 hown hK.1 hP hD hS 0 rfl rfl 1 (by decide) l15 (fun _ h9 => h9) rfl (by decide +kernel) rfl rfl (Nat.le_of_ble_eq_true rfl) dX5_copy_5 (fun H locs hP hD hS => ?_)
  have hP : va_P D.1 vwCl [(a0, .inr (4, [.ref a0_signs, .int v1_size])), (a0_signs, .inl (D.2 1, 12, .inl g0_signs)), (a1, .inr (4, [.ref a1_signs, .int v1_size])), (a1_signs, .inl (D.2 1, 12, .inl g1_signs))] H := hP
  have hD : va_D A [(a0, .inr (4, [.ref a0_signs, .int v1_size])), (a0_signs, .inl (D.2 1, 12, .inl g0_signs)), (a1, .inr (4, [.ref a1_signs, .int v1_size])), (a1_signs, .inl (D.2 1, 12, .inl g1_signs))] := hD
  refine lv_aload_n hx hb dX5_copy_8 rfl (lv_at hl 1 rfl) ?_
  refine va_get (D := D.1) (ci := 4) (v := .ref a1_signs) (C := RX5) (T := TX5) (N := 2) hx hb hts hwX5 hown hK.1 hP 2 rfl rfl 0 (by decide) l9 (fun _ h9 => h9) rfl dX5_copy_9 ?_
  refine lv_iconst (v := 0) hx hb dX5_copy_12 (by decide) ?_
  refine lv_aload_n hx hb dX5_copy_13 rfl (lv_at hl 0 rfl) ?_
  refine va_get (D := D.1) (ci := 4) (v := .ref a0_signs) (C := RX5) (T := TX5) (N := 2) hx hb hts hwX5 hown hK.1 hP 0 rfl rfl 0 (by decide) l9 (fun _ h9 => h9) rfl dX5_copy_14 ?_
  refine lv_iconst (v := 0) hx hb dX5_copy_17 (by decide) ?_
  refine lv_aload_n hx hb dX5_copy_18 rfl (lv_at hl 0 rfl) ?_
  refine va_get (D := D.1) (ci := 4) (v := .int v1_size) (C := RX5) (T := TX5) (N := 2) hx hb hts hwX5 hown hK.1 hP 0 rfl rfl 1 (by decide) l15 (fun _ h9 => h9) rfl dX5_copy_19 ?_
  obtain ⟨h_1, hf⟩ := gd hf
  obtain ⟨h_2, h_3, h_4, h_5, h_6⟩ := zor5 h_1
  refine va_copyi hx hb (hml.trans hl.1.symm) hown l41 hnatA hstA hinS hK.1 hP hD hS 3 1 1 1 (ty := .int) rfl rfl rfl rfl rfl h_2 h_3 h_4 (Nat.not_lt.mp h_5) (Nat.not_lt.mp h_6) (fun _ _ => rfl) (Nat.le_of_ble_eq_true rfl) (Nat.le_of_ble_eq_true rfl) dX5_copy_22 (fun H locs hP hD hS => ?_)
  have hP : va_P D.1 vwCl [(a0, .inr (4, [.ref a0_signs, .int v1_size])), (a0_signs, .inl (D.2 1, 12, .inl (va_cpy g1_signs g0_signs ((0 : Int32)).toNatClampNeg ((0 : Int32)).toNatClampNeg (v1_size).toNatClampNeg))), (a1, .inr (4, [.ref a1_signs, .int v1_size])), (a1_signs, .inl (D.2 1, 12, .inl g1_signs))] H := hP
  have hD : va_D A [(a0, .inr (4, [.ref a0_signs, .int v1_size])), (a0_signs, .inl (D.2 1, 12, .inl (va_cpy g1_signs g0_signs ((0 : Int32)).toNatClampNeg ((0 : Int32)).toNatClampNeg (v1_size).toNatClampNeg))), (a1, .inr (4, [.ref a1_signs, .int v1_size])), (a1_signs, .inl (D.2 1, 12, .inl g1_signs))] := hD
  have he := Option.some.inj hf
  rw [hQ]
  exact W.vret hx hb hr (fun t ht hW => by rw [← he]; exact ⟨⟨(), rfl, trivial, by rw [ht]; exact hP, hD⟩, hS.F ht⟩) hS.2.2 dX5_copy_25
def fX8_placesOf_11 (N : Nat) (p0 : Int64) (p2 : Int32) : Nat → Int32 → Int32 → Int32 → Option (Int32)
  | 0, _, _, _ => none
  | K + 1, x3, x4, x5 =>
    if (8 : Int32) ≤ x5 then
      some (x4)
    else
      Option.bind (fX8_codeAt p0 x5) fun r3 =>
      if r3 = x3 then
        (fX8_placesOf_11 N p0 p2 K) x3 (x4 ||| ((1 : Int32) <<< (x5 &&& 31))) (x5 + (1 : Int32))
      else
        (fX8_placesOf_11 N p0 p2 K) x3 x4 (x5 + (1 : Int32))
def fX8_placesOf (N : Nat) (p0 : Int64) (p2 : Int32) : Option (Int32) :=
  Option.bind (fX8_codeOf p2) fun r1 =>
  fX8_placesOf_11 N p0 p2 N r1 (0 : Int32) (0 : Int32)
set_option maxHeartbeats 4000000 in
set_option maxRecDepth 100000 in
theorem mX8_placesOf (l : Launch) (D : zG)  (sz : Nat)   (p0 : Int64) (p2 : Int32) (N : Nat) (res : Int32) (hf : fX8_placesOf N p0 p2 = some res) : Met l yX8_placesOf wsX8_placesOf ({ frames := 1, cells := 0, slots := 0, locals := 22 } : Room) (va_Pc [.long p0, .int p2] (zW D sz [])) (va_Qi (fun r (_ : Unit) => r = res) (fun _ => zB D (va_A [] sz) []) (va_A [] sz)) 0 0 (va_A [] sz) := by
  refine Met.ofW (cc := cX8_placesOf) (maxL := 6) (ret := (some .int)) (by decide) rfl ?_
  intro p e s m args below meth c s₁ B hml hv
  obtain ⟨rfl, hsz, hP, hK, hD0⟩ := hv
  have hx := B.exec
  have hb := B.bytes
  have hr := B.returns
  have hts := atoms_spec (ws := wsX8_placesOf) B.pre
  have hown : s.vm.findClass RX8 = some m.cls := findClass_of_methodNamed B.named
  have hlocks := B.notSynchronized
  subst hsz
  have hD := hD0.self (sz := s.heap.size)
  generalize hAe : va_A [] s.heap.size = A at hD ⊢
  have hA : ∀ q : Nat, s.heap.size ≤ q → A q := fun q h => by rw [← hAe]; exact Or.inr h
  have hl := lv_entry ([.long p0, .int p2]) (n := 6) (Nat.le_of_ble_eq_true rfl)
  rw [lg_entry_eq]
  generalize (lg_sl ([.long p0, .int p2]) ++ List.replicate (6 - (lg_sl ([.long p0, .int p2])).length) Slot.unset).toArray = ls at hl ⊢
  have hl : lv_has ls 6 [(0, .long p0), (2, .int p2)] := hl
  refine zStart (A := A) hP (fun Q0 H locs hQ hP hS => ?_)
  have k11 : ∀ K : Nat, ∀ (x3 : Int32) (x4 : Int32) (x5 : Int32) (H : Heap) (locs : List Loc) (ls : Array Slot), fX8_placesOf_11 N p0 p2 K x3 x4 x5 = some res → va_P D.1 vwCl [] H → va_D A [] → va_S A s.heap H locs → lv_has ls 6 [(0, .long p0), (3, .int x3), (4, .int x4), (5, .int x5)] → W p l e (headSpec wsX8_placesOf ({ frames := 1, cells := 0, slots := 0, locals := 22 } : Room)).room s m ([.long p0, .int p2] : List Value).toArray below meth c H locs 0 0 Q0 (F0 m 11 ls []) := by
    intro K
    induction K with
    | zero =>
      intro x3 x4 x5 H locs ls hf
      rw [fX8_placesOf_11] at hf
      cases hf
    | succ K ih =>
      intro x3 x4 x5 H locs ls hf hP hD hS hl
      rw [fX8_placesOf_11] at hf
      refine lv_iload hx hb dX8_placesOf_11 (lv_at hl 3 rfl) ?_
      refine lv_bipush (v := 8) hx hb dX8_placesOf_13 (by decide) ?_
      refine lv_icmp_ge (tgt := 43) hx hb dX8_placesOf_15 (by decide) (fun c_2 => ?_) (fun c_2 => ?_)
      · replace hf := ip c_2 hf
        refine lv_iload hx hb dX8_placesOf_43 (lv_at hl 2 rfl) ?_
        have he := Option.some.inj hf
        rw [hQ]
        exact W.iret (v := x4) hx hb hr (fun t ht hW => by rw [← he]; exact ⟨⟨x4, (), rfl, rfl, by rw [ht]; exact hP, hD⟩, hS.F ht⟩) hS.2.2 dX8_placesOf_45
      · replace hf := im c_2 hf
        refine lv_lload_n hx hb dX8_placesOf_18 rfl (lv_at hl 0 rfl) ?_
        refine lv_iload hx hb dX8_placesOf_19 (lv_at hl 3 rfl) ?_
        obtain ⟨r3, hr3, hf⟩ := bd hf
        refine zSi (As := [.long p0, .int x5]) (rest := []) (wn := []) ⟨hx, hb, hml, hown, hts⟩ (mX8_codeAt l D H.size p0 x5 r3 hr3) (va_cwS 2 hts gX8_placesOf_X8_codeAt rfl rfl rfl (by decide +kernel) ⟨Nat.le_of_ble_eq_true rfl, Nat.le_of_ble_eq_true rfl⟩) hK hP hD hS hA [] [] [] rfl (by decide) rfl (by decide) (by decide) rfl (by decide) rfl hl.1 rfl (Nat.le_of_ble_eq_true rfl) dX8_placesOf_21 ⟨Nat.zero_le _, Nat.zero_le _⟩ (fun H locs hP hD hS => ?_)
        refine lv_iload_n hx hb dX8_placesOf_24 rfl (lv_at hl 1 rfl) ?_
        refine lv_icmp_ne (tgt := 37) hx hb dX8_placesOf_25 (by decide) (fun c_4 => ?_) (fun c_4 => ?_)
        · replace hf := im c_4 hf
          refine lv_iinc (v := (x5 + (1 : Int32))) (lv' := [(5, .int (x5 + (1 : Int32))), (0, .long p0), (3, .int x3), (4, .int x4)]) hx hb dX8_placesOf_37 hl (k := 3) rfl rfl (by decide) rfl (fun ls hl => ?_)
          refine lv_goto (tgt := 11) hx hb dX8_placesOf_40 (by decide) ?_
          exact ih x3 x4 (x5 + (1 : Int32)) H locs ls hf hP hD hS (lv_sub hl [1, 2, 3, 0] rfl)
        · replace hf := ip c_4 hf
          refine lv_iload hx hb dX8_placesOf_28 (lv_at hl 2 rfl) ?_
          refine lv_iconst (v := 1) hx hb dX8_placesOf_30 (by decide) ?_
          refine lv_iload hx hb dX8_placesOf_31 (lv_at hl 3 rfl) ?_
          refine lv_ishl hx hb dX8_placesOf_33 ?_
          refine lv_ior hx hb dX8_placesOf_34 ?_
          refine lv_istore (lv' := [(4, .int (x4 ||| ((1 : Int32) <<< (x5 &&& 31)))), (0, .long p0), (3, .int x3), (5, .int x5)]) hx hb dX8_placesOf_35 hl (by decide) rfl (fun ls hl => ?_)
          refine lv_iinc (v := (x5 + (1 : Int32))) (lv' := [(5, .int (x5 + (1 : Int32))), (4, .int (x4 ||| ((1 : Int32) <<< (x5 &&& 31)))), (0, .long p0), (3, .int x3)]) hx hb dX8_placesOf_37 hl (k := 3) rfl rfl (by decide) rfl (fun ls hl => ?_)
          refine lv_goto (tgt := 11) hx hb dX8_placesOf_40 (by decide) ?_
          exact ih x3 (x4 ||| ((1 : Int32) <<< (x5 &&& 31))) (x5 + (1 : Int32)) H locs ls hf hP hD hS (lv_sub hl [2, 3, 1, 0] rfl)
  unfold fX8_placesOf at hf
  refine lv_iload_n hx hb dX8_placesOf_0 rfl (lv_at hl 1 rfl) ?_
  obtain ⟨r1, hr1, hf⟩ := bd hf
  refine zSi (As := [.int p2]) (rest := []) (wn := []) ⟨hx, hb, hml, hown, hts⟩ (mX8_codeOf l D H.size p2 r1 hr1) (va_cwS 1 hts gX8_placesOf_X8_codeOf rfl rfl rfl (by decide +kernel) ⟨Nat.le_of_ble_eq_true rfl, Nat.le_of_ble_eq_true rfl⟩) hK hP hD hS hA [] [] [] rfl (by decide) rfl (by decide) (by decide) rfl (by decide) rfl hl.1 rfl (Nat.le_of_ble_eq_true rfl) dX8_placesOf_1 ⟨Nat.zero_le _, Nat.zero_le _⟩ (fun H locs hP hD hS => ?_)
  refine lv_istore_n (lv' := [(3, .int r1), (0, .long p0), (2, .int p2)]) hx hb dX8_placesOf_4 rfl hl (by decide) rfl (fun ls hl => ?_)
  refine lv_iconst (v := 0) hx hb dX8_placesOf_5 (by decide) ?_
  refine lv_istore (lv' := [(4, .int (0 : Int32)), (3, .int r1), (0, .long p0), (2, .int p2)]) hx hb dX8_placesOf_6 hl (by decide) rfl (fun ls hl => ?_)
  refine lv_iconst (v := 0) hx hb dX8_placesOf_8 (by decide) ?_
  refine lv_istore (lv' := [(5, .int (0 : Int32)), (4, .int (0 : Int32)), (3, .int r1), (0, .long p0), (2, .int p2)]) hx hb dX8_placesOf_9 hl (by decide) rfl (fun ls hl => ?_)
  exact k11 N r1 (0 : Int32) (0 : Int32) H locs ls hf hP hD hS (lv_sub hl [3, 2, 1, 0] rfl)
def fX5_madeWith (N : Nat) (p0 : Int32) (p1 : Int32) (p2 : Int64) : Option (Int32) :=
  if p1 = (42 : Int32) then
    some ((p0 ||| (-p0)))
  else
    if p1 = (63 : Int32) then
      some ((p0 <<< ((1 : Int32) &&& 31)))
    else
      Option.bind (fX8_placesOf N p2 p1) fun r3 =>
      some (((p0 &&& r3) <<< ((1 : Int32) &&& 31)))
set_option maxHeartbeats 4000000 in
set_option maxRecDepth 100000 in
theorem mX5_madeWith (l : Launch) (D : zG)  (sz : Nat)   (p0 : Int32) (p1 : Int32) (p2 : Int64) (N : Nat) (res : Int32) (hf : fX5_madeWith N p0 p1 p2 = some res) : Met l yX5_madeWith wsX5_madeWith ({ frames := 2, cells := 0, slots := 0, locals := 47 } : Room) (va_Pc [.int p0, .int p1, .long p2] (zW D sz [])) (va_Qi (fun r (_ : Unit) => r = res) (fun _ => zB D (va_A [] sz) []) (va_A [] sz)) 0 0 (va_A [] sz) := by
  refine Met.ofW (cc := cX5_madeWith) (maxL := 4) (ret := (some .int)) (by decide) rfl ?_
  intro p e s m args below meth c s₁ B hml hv
  obtain ⟨rfl, hsz, hP, hK, hD0⟩ := hv
  have hx := B.exec
  have hb := B.bytes
  have hr := B.returns
  have hts := atoms_spec (ws := wsX5_madeWith) B.pre
  have hown : s.vm.findClass RX5 = some m.cls := findClass_of_methodNamed B.named
  have hlocks := B.notSynchronized
  subst hsz
  have hD := hD0.self (sz := s.heap.size)
  generalize hAe : va_A [] s.heap.size = A at hD ⊢
  have hA : ∀ q : Nat, s.heap.size ≤ q → A q := fun q h => by rw [← hAe]; exact Or.inr h
  have hl := lv_entry ([.int p0, .int p1, .long p2]) (n := 4) (Nat.le_of_ble_eq_true rfl)
  rw [lg_entry_eq]
  generalize (lg_sl ([.int p0, .int p1, .long p2]) ++ List.replicate (4 - (lg_sl ([.int p0, .int p1, .long p2])).length) Slot.unset).toArray = ls at hl ⊢
  have hl : lv_has ls 4 [(0, .int p0), (1, .int p1), (2, .long p2)] := hl
  refine zStart (A := A) hP (fun Q0 H locs hQ hP hS => ?_)
  unfold fX5_madeWith at hf
  refine lv_iload_n hx hb dX5_madeWith_0 rfl (lv_at hl 1 rfl) ?_
  refine lv_bipush (v := 42) hx hb dX5_madeWith_1 (by decide) ?_
  refine lv_icmp_ne (tgt := 11) hx hb dX5_madeWith_3 (by decide) (fun c_1 => ?_) (fun c_1 => ?_)
  · replace hf := im c_1 hf
    refine lv_iload_n hx hb dX5_madeWith_11 rfl (lv_at hl 1 rfl) ?_
    refine lv_bipush (v := 63) hx hb dX5_madeWith_12 (by decide) ?_
    refine lv_icmp_ne (tgt := 21) hx hb dX5_madeWith_14 (by decide) (fun c_2 => ?_) (fun c_2 => ?_)
    · replace hf := im c_2 hf
      refine lv_iload_n hx hb dX5_madeWith_21 rfl (lv_at hl 0 rfl) ?_
      refine lv_lload_n hx hb dX5_madeWith_22 rfl (lv_at hl 2 rfl) ?_
      refine lv_iload_n hx hb dX5_madeWith_23 rfl (lv_at hl 1 rfl) ?_
      obtain ⟨r3, hr3, hf⟩ := bd hf
      refine zSi (As := [.long p2, .int p1]) (rest := [.int p0]) (wn := []) ⟨hx, hb, hml, hown, hts⟩ (mX8_placesOf l D H.size p2 p1 N r3 hr3) (va_cwS 2 hts gX5_madeWith_X8_placesOf rfl rfl rfl (by decide +kernel) ⟨Nat.le_of_ble_eq_true rfl, Nat.le_of_ble_eq_true rfl⟩) hK hP hD hS hA [] [] [] rfl (by decide) rfl (by decide) (by decide) rfl (by decide) rfl hl.1 rfl (Nat.le_of_ble_eq_true rfl) dX5_madeWith_24 ⟨Nat.zero_le _, Nat.zero_le _⟩ (fun H locs hP hD hS => ?_)
      refine lv_iand hx hb dX5_madeWith_27 ?_
      refine lv_iconst (v := 1) hx hb dX5_madeWith_28 (by decide) ?_
      refine lv_ishl hx hb dX5_madeWith_29 ?_
      have he := Option.some.inj hf
      rw [hQ]
      exact W.iret (v := ((p0 &&& r3) <<< ((1 : Int32) &&& 31))) hx hb hr (fun t ht hW => by rw [← he]; exact ⟨⟨((p0 &&& r3) <<< ((1 : Int32) &&& 31)), (), rfl, rfl, by rw [ht]; exact hP, hD⟩, hS.F ht⟩) hS.2.2 dX5_madeWith_30
    · replace hf := ip c_2 hf
      refine lv_iload_n hx hb dX5_madeWith_17 rfl (lv_at hl 0 rfl) ?_
      refine lv_goto (tgt := 28) hx hb dX5_madeWith_18 (by decide) ?_
      refine lv_iconst (v := 1) hx hb dX5_madeWith_28 (by decide) ?_
      refine lv_ishl hx hb dX5_madeWith_29 ?_
      have he := Option.some.inj hf
      rw [hQ]
      exact W.iret (v := (p0 <<< ((1 : Int32) &&& 31))) hx hb hr (fun t ht hW => by rw [← he]; exact ⟨⟨(p0 <<< ((1 : Int32) &&& 31)), (), rfl, rfl, by rw [ht]; exact hP, hD⟩, hS.F ht⟩) hS.2.2 dX5_madeWith_30
  · replace hf := ip c_1 hf
    refine lv_iload_n hx hb dX5_madeWith_6 rfl (lv_at hl 0 rfl) ?_
    refine lv_iload_n hx hb dX5_madeWith_7 rfl (lv_at hl 0 rfl) ?_
    refine lv_ineg hx hb dX5_madeWith_8 ?_
    refine lv_ior hx hb dX5_madeWith_9 ?_
    have he := Option.some.inj hf
    rw [hQ]
    exact W.iret (v := (p0 ||| (-p0))) hx hb hr (fun t ht hW => by rw [← he]; exact ⟨⟨(p0 ||| (-p0)), (), rfl, rfl, by rw [ht]; exact hP, hD⟩, hS.F ht⟩) hS.2.2 dX5_madeWith_10
def fX5_isMetBy_54 (N : Nat) (v0_size : Int32) (g0_signs : Nat → Int32) (p1 : Int64) (x3 : Int32) (x4 : Int32) : Option (Int32) :=
  if (x4 &&& x3) = (0 : Int32) then
    some ((0 : Int32))
  else
    some ((1 : Int32))
def fX5_isMetBy_13 (N : Nat) (v0_size : Int32) (g0_signs : Nat → Int32) (p1 : Int64) : Nat → Int32 → Int32 → Int32 → Option (Int32)
  | 0, _, _, _ => none
  | K + 1, x3, x4, x5 =>
    if v0_size ≤ x5 then
      fX5_isMetBy_54 N v0_size g0_signs p1 x3 x4
    else
      if x4 = (0 : Int32) then
        fX5_isMetBy_54 N v0_size g0_signs p1 x3 x4
      else
        if x5 < 0 ∨ 12 ≤ (x5).toNatClampNeg then none else
        Option.bind (fX5_madeWith N x4 (g0_signs (x5).toNatClampNeg) p1) fun r5 =>
        (fX5_isMetBy_13 N v0_size g0_signs p1 K) x3 (r5 &&& (((2 : Int32) * x3) - (1 : Int32))) (x5 + (1 : Int32))
def fX5_isMetBy (N : Nat) (v0_size : Int32) (g0_signs : Nat → Int32) (p1 : Int64) : Option (Int32) :=
  Option.bind (fX8_length N p1) fun r1 =>
  fX5_isMetBy_13 N v0_size g0_signs p1 N ((1 : Int32) <<< (r1 &&& 31)) (1 : Int32) (0 : Int32)
set_option maxHeartbeats 4000000 in
set_option maxRecDepth 100000 in
theorem mX5_isMetBy (l : Launch) (D : zG) (a0 : Nat) (a0_signs : Nat) (sz : Nat)  (v0_size : Int32) (g0_signs : Nat → Int32) (p1 : Int64) (N : Nat) (res : Int32) (hf : fX5_isMetBy N v0_size g0_signs p1 = some res) : Met l yX5_isMetBy wsX5_isMetBy ({ frames := 3, cells := 0, slots := 0, locals := 70 } : Room) (va_Pc [.ref a0, .long p1] (zW D sz [(a0, .inr (4, [.ref a0_signs, .int v0_size])), (a0_signs, .inl (D.2 1, 12, .inl g0_signs))])) (va_Qi (fun r (_ : Unit) => r = res ∧ (r = 0 ∨ r = 1)) (fun _ => zB D (va_A [(a0, .inr (4, [.ref a0_signs, .int v0_size])), (a0_signs, .inl (D.2 1, 12, .inl g0_signs))] sz) [(a0, .inr (4, [.ref a0_signs, .int v0_size])), (a0_signs, .inl (D.2 1, 12, .inl g0_signs))]) (va_A [(a0, .inr (4, [.ref a0_signs, .int v0_size])), (a0_signs, .inl (D.2 1, 12, .inl g0_signs))] sz)) 0 0 (va_A [(a0, .inr (4, [.ref a0_signs, .int v0_size])), (a0_signs, .inl (D.2 1, 12, .inl g0_signs))] sz) := by
  refine Met.ofW (cc := cX5_isMetBy) (maxL := 6) (ret := (some .boolean)) (by decide) rfl ?_
  intro p e s m args below meth c s₁ B hml hv
  obtain ⟨rfl, hsz, hP, hK, hD0⟩ := hv
  have hx := B.exec
  have hb := B.bytes
  have hr := B.returns
  have hts := atoms_spec (ws := wsX5_isMetBy) B.pre
  have hown : s.vm.findClass RX5 = some m.cls := findClass_of_methodNamed B.named
  have hlocks := B.notSynchronized
  subst hsz
  have hD := hD0.self (sz := s.heap.size)
  generalize hAe : va_A [(a0, .inr (4, [.ref a0_signs, .int v0_size])), (a0_signs, .inl (D.2 1, 12, .inl g0_signs))] s.heap.size = A at hD ⊢
  have hA : ∀ q : Nat, s.heap.size ≤ q → A q := fun q h => by rw [← hAe]; exact Or.inr h
  have l15 := zat hts 1 (w := .fieldLink RX5 15 "TurnedWords$Pattern" "size" "I") rfl
  have l9 := zat hts 2 (w := .fieldLink RX5 9 "TurnedWords$Pattern" "signs" "[I") rfl
  have hwX5 : ∀ w ∈ u_ws RX5 TX5 2, w ∈ wsX5_isMetBy := fun w h => List.mem_cons_of_mem _ (List.mem_append_right _ h)
  have hl := lv_entry ([.ref a0, .long p1]) (n := 6) (Nat.le_of_ble_eq_true rfl)
  rw [lg_entry_eq]
  generalize (lg_sl ([.ref a0, .long p1]) ++ List.replicate (6 - (lg_sl ([.ref a0, .long p1])).length) Slot.unset).toArray = ls at hl ⊢
  have hl : lv_has ls 6 [(0, .ref a0), (1, .long p1)] := hl
  refine zStart (A := A) hP (fun Q0 H locs hQ hP hS => ?_)
  have k54 : ∀ (x3 : Int32) (x4 : Int32) (H : Heap) (locs : List Loc) (ls : Array Slot), fX5_isMetBy_54 N v0_size g0_signs p1 x3 x4 = some res → va_P D.1 vwCl [(a0, .inr (4, [.ref a0_signs, .int v0_size])), (a0_signs, .inl (D.2 1, 12, .inl g0_signs))] H → va_D A [(a0, .inr (4, [.ref a0_signs, .int v0_size])), (a0_signs, .inl (D.2 1, 12, .inl g0_signs))] → va_S A s.heap H locs → lv_has ls 6 [(3, .int x3), (4, .int x4)] → W p l e (headSpec wsX5_isMetBy ({ frames := 3, cells := 0, slots := 0, locals := 70 } : Room)).room s m ([.ref a0, .long p1] : List Value).toArray below meth c H locs 0 0 Q0 (F0 m 54 ls []) := by
    intro x3 x4 H locs ls hf hP hD hS hl
    unfold fX5_isMetBy_54 at hf
    refine lv_iload hx hb dX5_isMetBy_54 (lv_at hl 1 rfl) ?_
    refine lv_iload_n hx hb dX5_isMetBy_56 rfl (lv_at hl 0 rfl) ?_
    refine lv_iand hx hb dX5_isMetBy_57 ?_
    refine lv_if_eq (tgt := 65) hx hb dX5_isMetBy_58 (by decide) (fun c_6 => ?_) (fun c_6 => ?_)
    · replace hf := ip c_6 hf
      refine lv_iconst (v := 0) hx hb dX5_isMetBy_65 (by decide) ?_
      have he := Option.some.inj hf
      rw [hQ]
      exact W.zret (v := (0 : Int32)) hx hb hr (znb (Or.inl rfl)) (fun t ht hW => by rw [← he]; exact ⟨⟨(0 : Int32), (), rfl, ⟨rfl, Or.inl rfl⟩, by rw [ht]; exact hP, hD⟩, hS.F ht⟩) hS.2.2 dX5_isMetBy_66
    · replace hf := im c_6 hf
      refine lv_iconst (v := 1) hx hb dX5_isMetBy_61 (by decide) ?_
      refine lv_goto (tgt := 66) hx hb dX5_isMetBy_62 (by decide) ?_
      have he := Option.some.inj hf
      rw [hQ]
      exact W.zret (v := (1 : Int32)) hx hb hr (znb (Or.inr rfl)) (fun t ht hW => by rw [← he]; exact ⟨⟨(1 : Int32), (), rfl, ⟨rfl, Or.inr rfl⟩, by rw [ht]; exact hP, hD⟩, hS.F ht⟩) hS.2.2 dX5_isMetBy_66
  have k13 : ∀ K : Nat, ∀ (x3 : Int32) (x4 : Int32) (x5 : Int32) (H : Heap) (locs : List Loc) (ls : Array Slot), fX5_isMetBy_13 N v0_size g0_signs p1 K x3 x4 x5 = some res → va_P D.1 vwCl [(a0, .inr (4, [.ref a0_signs, .int v0_size])), (a0_signs, .inl (D.2 1, 12, .inl g0_signs))] H → va_D A [(a0, .inr (4, [.ref a0_signs, .int v0_size])), (a0_signs, .inl (D.2 1, 12, .inl g0_signs))] → va_S A s.heap H locs → lv_has ls 6 [(0, .ref a0), (1, .long p1), (3, .int x3), (4, .int x4), (5, .int x5)] → W p l e (headSpec wsX5_isMetBy ({ frames := 3, cells := 0, slots := 0, locals := 70 } : Room)).room s m ([.ref a0, .long p1] : List Value).toArray below meth c H locs 0 0 Q0 (F0 m 13 ls []) := by
    intro K
    induction K with
    | zero =>
      intro x3 x4 x5 H locs ls hf
      rw [fX5_isMetBy_13] at hf
      cases hf
    | succ K ih =>
      intro x3 x4 x5 H locs ls hf hP hD hS hl
      rw [fX5_isMetBy_13] at hf
      refine lv_iload hx hb dX5_isMetBy_13 (lv_at hl 4 rfl) ?_
      refine lv_aload_n hx hb dX5_isMetBy_15 rfl (lv_at hl 0 rfl) ?_
      refine va_get (D := D.1) (ci := 4) (v := .int v0_size) (C := RX5) (T := TX5) (N := 2) hx hb hts hwX5 hown hK.1 hP 0 rfl rfl 1 (by decide) l15 (fun _ h9 => h9) rfl dX5_isMetBy_16 ?_
      refine lv_icmp_ge (tgt := 54) hx hb dX5_isMetBy_19 (by decide) (fun c_2 => ?_) (fun c_2 => ?_)
      · replace hf := ip c_2 hf
        exact k54 x3 x4 H locs ls hf hP hD hS (lv_sub hl [2, 3] rfl)
      · replace hf := im c_2 hf
        refine lv_iload hx hb dX5_isMetBy_22 (lv_at hl 3 rfl) ?_
        refine lv_if_eq (tgt := 54) hx hb dX5_isMetBy_24 (by decide) (fun c_3 => ?_) (fun c_3 => ?_)
        · replace hf := ip c_3 hf
          exact k54 x3 x4 H locs ls hf hP hD hS (lv_sub hl [2, 3] rfl)
        · replace hf := im c_3 hf
          refine lv_iload hx hb dX5_isMetBy_27 (lv_at hl 3 rfl) ?_
          refine lv_aload_n hx hb dX5_isMetBy_29 rfl (lv_at hl 0 rfl) ?_
          refine va_get (D := D.1) (ci := 4) (v := .ref a0_signs) (C := RX5) (T := TX5) (N := 2) hx hb hts hwX5 hown hK.1 hP 0 rfl rfl 0 (by decide) l9 (fun _ h9 => h9) rfl dX5_isMetBy_30 ?_
          refine lv_iload hx hb dX5_isMetBy_33 (lv_at hl 4 rfl) ?_
          obtain ⟨h_4, hf⟩ := gd hf
          refine va_iald hx hb hK.1 hP 1 1 rfl rfl h_4 dX5_isMetBy_35 ?_
          refine lv_lload_n hx hb dX5_isMetBy_36 rfl (lv_at hl 1 rfl) ?_
          obtain ⟨r5, hr5, hf⟩ := bd hf
          refine zSi (As := [.int x4, .int (g0_signs (x5).toNatClampNeg), .long p1]) (rest := []) (wn := [(a0, .inr (4, [.ref a0_signs, .int v0_size])), (a0_signs, .inl (D.2 1, 12, .inl g0_signs))]) ⟨hx, hb, hml, hown, hts⟩ (mX5_madeWith l D H.size x4 (g0_signs (x5).toNatClampNeg) p1 N r5 hr5) (va_cwS 3 hts gX5_isMetBy_X5_madeWith rfl rfl rfl (by decide +kernel) ⟨Nat.le_of_ble_eq_true rfl, Nat.le_of_ble_eq_true rfl⟩) hK hP hD hS hA [] [0, 1] [0, 1] rfl (by decide) rfl (by decide) (by decide) rfl (by decide) rfl hl.1 rfl (Nat.le_of_ble_eq_true rfl) dX5_isMetBy_37 ⟨Nat.zero_le _, Nat.zero_le _⟩ (fun H locs hP hD hS => ?_)
          refine lv_iconst (v := 2) hx hb dX5_isMetBy_40 (by decide) ?_
          refine lv_iload_n hx hb dX5_isMetBy_41 rfl (lv_at hl 2 rfl) ?_
          refine lv_imul hx hb dX5_isMetBy_42 ?_
          refine lv_iconst (v := 1) hx hb dX5_isMetBy_43 (by decide) ?_
          refine lv_isub hx hb dX5_isMetBy_44 ?_
          refine lv_iand hx hb dX5_isMetBy_45 ?_
          refine lv_istore (lv' := [(4, .int (r5 &&& (((2 : Int32) * x3) - (1 : Int32)))), (0, .ref a0), (1, .long p1), (3, .int x3), (5, .int x5)]) hx hb dX5_isMetBy_46 hl (by decide) rfl (fun ls hl => ?_)
          refine lv_iinc (v := (x5 + (1 : Int32))) (lv' := [(5, .int (x5 + (1 : Int32))), (4, .int (r5 &&& (((2 : Int32) * x3) - (1 : Int32)))), (0, .ref a0), (1, .long p1), (3, .int x3)]) hx hb dX5_isMetBy_48 hl (k := 4) rfl rfl (by decide) rfl (fun ls hl => ?_)
          refine lv_goto (tgt := 13) hx hb dX5_isMetBy_51 (by decide) ?_
          exact ih x3 (r5 &&& (((2 : Int32) * x3) - (1 : Int32))) (x5 + (1 : Int32)) H locs ls hf hP hD hS (lv_sub hl [2, 3, 4, 1, 0] rfl)
  unfold fX5_isMetBy at hf
  refine lv_iconst (v := 1) hx hb dX5_isMetBy_0 (by decide) ?_
  refine lv_lload_n hx hb dX5_isMetBy_1 rfl (lv_at hl 1 rfl) ?_
  obtain ⟨r1, hr1, hf⟩ := bd hf
  refine zSi (As := [.long p1]) (rest := [.int (1 : Int32)]) (wn := [(a0, .inr (4, [.ref a0_signs, .int v0_size])), (a0_signs, .inl (D.2 1, 12, .inl g0_signs))]) ⟨hx, hb, hml, hown, hts⟩ (mX8_length l D H.size p1 N r1 hr1) (va_cwS 1 hts gX5_isMetBy_X8_length rfl rfl rfl (by decide +kernel) ⟨Nat.le_of_ble_eq_true rfl, Nat.le_of_ble_eq_true rfl⟩) hK hP hD hS hA [] [0, 1] [0, 1] rfl (by decide) rfl (by decide) (by decide) rfl (by decide) rfl hl.1 rfl (Nat.le_of_ble_eq_true rfl) dX5_isMetBy_2 ⟨Nat.zero_le _, Nat.zero_le _⟩ (fun H locs hP hD hS => ?_)
  refine lv_ishl hx hb dX5_isMetBy_5 ?_
  refine lv_istore_n (lv' := [(3, .int ((1 : Int32) <<< (r1 &&& 31))), (0, .ref a0), (1, .long p1)]) hx hb dX5_isMetBy_6 rfl hl (by decide) rfl (fun ls hl => ?_)
  refine lv_iconst (v := 1) hx hb dX5_isMetBy_7 (by decide) ?_
  refine lv_istore (lv' := [(4, .int (1 : Int32)), (3, .int ((1 : Int32) <<< (r1 &&& 31))), (0, .ref a0), (1, .long p1)]) hx hb dX5_isMetBy_8 hl (by decide) rfl (fun ls hl => ?_)
  refine lv_iconst (v := 0) hx hb dX5_isMetBy_10 (by decide) ?_
  refine lv_istore (lv' := [(5, .int (0 : Int32)), (4, .int (1 : Int32)), (3, .int ((1 : Int32) <<< (r1 &&& 31))), (0, .ref a0), (1, .long p1)]) hx hb dX5_isMetBy_11 hl (by decide) rfl (fun ls hl => ?_)
  exact k13 N ((1 : Int32) <<< (r1 &&& 31)) (1 : Int32) (0 : Int32) H locs ls hf hP hD hS (lv_sub hl [3, 4, 2, 1, 0] rfl)
def fX6_lettersFrom_2 (N : Nat) (v0_size : Int32) (g0_bytes : Nat → Int32) (p1 : Int32) : Nat → Int32 → Option (Int32)
  | 0, _ => none
  | K + 1, x2 =>
    Option.bind (fX10_size v0_size) fun r1 =>
    if r1 ≤ (p1 + x2) then
      some (x2)
    else
      Option.bind (fX10_at v0_size g0_bytes (p1 + x2)) fun r3 =>
      Option.bind (fX11_isLetter r3) fun r4 =>
      if r4 = (0 : Int32) then
        some (x2)
      else
        (fX6_lettersFrom_2 N v0_size g0_bytes p1 K) (x2 + (1 : Int32))
def fX6_lettersFrom (N : Nat) (v0_size : Int32) (g0_bytes : Nat → Int32) (p1 : Int32) : Option (Int32) :=
  fX6_lettersFrom_2 N v0_size g0_bytes p1 N (0 : Int32)
set_option maxHeartbeats 4000000 in
set_option maxRecDepth 100000 in
theorem mX6_lettersFrom (l : Launch) (D : zG) (a0 : Nat) (a0_bytes : Nat) (sz : Nat)  (v0_size : Int32) (g0_bytes : Nat → Int32) (p1 : Int32) (N : Nat) (res : Int32) (hf : fX6_lettersFrom N v0_size g0_bytes p1 = some res) : Met l yX6_lettersFrom wsX6_lettersFrom ({ frames := 1, cells := 0, slots := 0, locals := 21 } : Room) (va_Pc [.ref a0, .int p1] (zW D sz [(a0, .inr (7, [.ref a0_bytes, .int v0_size])), (a0_bytes, .inl (D.2 0, 400, .inl g0_bytes))])) (va_Qi (fun r (_ : Unit) => r = res) (fun _ => zB D (va_A [(a0, .inr (7, [.ref a0_bytes, .int v0_size])), (a0_bytes, .inl (D.2 0, 400, .inl g0_bytes))] sz) [(a0, .inr (7, [.ref a0_bytes, .int v0_size])), (a0_bytes, .inl (D.2 0, 400, .inl g0_bytes))]) (va_A [(a0, .inr (7, [.ref a0_bytes, .int v0_size])), (a0_bytes, .inl (D.2 0, 400, .inl g0_bytes))] sz)) 0 0 (va_A [(a0, .inr (7, [.ref a0_bytes, .int v0_size])), (a0_bytes, .inl (D.2 0, 400, .inl g0_bytes))] sz) := by
  refine Met.ofW (cc := cX6_lettersFrom) (maxL := 3) (ret := (some .int)) (by decide) rfl ?_
  intro p e s m args below meth c s₁ B hml hv
  obtain ⟨rfl, hsz, hP, hK, hD0⟩ := hv
  have hx := B.exec
  have hb := B.bytes
  have hr := B.returns
  have hts := atoms_spec (ws := wsX6_lettersFrom) B.pre
  have hown : s.vm.findClass RX6 = some m.cls := findClass_of_methodNamed B.named
  have hlocks := B.notSynchronized
  subst hsz
  have hD := hD0.self (sz := s.heap.size)
  generalize hAe : va_A [(a0, .inr (7, [.ref a0_bytes, .int v0_size])), (a0_bytes, .inl (D.2 0, 400, .inl g0_bytes))] s.heap.size = A at hD ⊢
  have hA : ∀ q : Nat, s.heap.size ≤ q → A q := fun q h => by rw [← hAe]; exact Or.inr h
  have hst_X11_isLetter := zat hts 12 (w := .static yX11_isLetter) rfl
  have hin_X11 := zat hts 13 (w := .initialized RX11) rfl
  have hl := lv_entry ([.ref a0, .int p1]) (n := 3) (Nat.le_of_ble_eq_true rfl)
  rw [lg_entry_eq]
  generalize (lg_sl ([.ref a0, .int p1]) ++ List.replicate (3 - (lg_sl ([.ref a0, .int p1])).length) Slot.unset).toArray = ls at hl ⊢
  have hl : lv_has ls 3 [(0, .ref a0), (1, .int p1)] := hl
  refine zStart (A := A) hP (fun Q0 H locs hQ hP hS => ?_)
  have k2 : ∀ K : Nat, ∀ (x2 : Int32) (H : Heap) (locs : List Loc) (ls : Array Slot), fX6_lettersFrom_2 N v0_size g0_bytes p1 K x2 = some res → va_P D.1 vwCl [(a0, .inr (7, [.ref a0_bytes, .int v0_size])), (a0_bytes, .inl (D.2 0, 400, .inl g0_bytes))] H → va_D A [(a0, .inr (7, [.ref a0_bytes, .int v0_size])), (a0_bytes, .inl (D.2 0, 400, .inl g0_bytes))] → va_S A s.heap H locs → lv_has ls 3 [(0, .ref a0), (1, .int p1), (2, .int x2)] → W p l e (headSpec wsX6_lettersFrom ({ frames := 1, cells := 0, slots := 0, locals := 21 } : Room)).room s m ([.ref a0, .int p1] : List Value).toArray below meth c H locs 0 0 Q0 (F0 m 2 ls []) := by
    intro K
    induction K with
    | zero =>
      intro x2 H locs ls hf
      rw [fX6_lettersFrom_2] at hf
      cases hf
    | succ K ih =>
      intro x2 H locs ls hf hP hD hS hl
      rw [fX6_lettersFrom_2] at hf
      refine lv_iload_n hx hb dX6_lettersFrom_2 rfl (lv_at hl 1 rfl) ?_
      refine lv_iload_n hx hb dX6_lettersFrom_3 rfl (lv_at hl 2 rfl) ?_
      refine lv_iadd hx hb dX6_lettersFrom_4 ?_
      refine lv_aload_n hx hb dX6_lettersFrom_5 rfl (lv_at hl 0 rfl) ?_
      obtain ⟨r1, hr1, hf⟩ := bd hf
      refine zVi (As := []) (rest := [.int (p1 + x2)]) (ci := 7) (q0 := 0) (wn := [(a0, .inr (7, [.ref a0_bytes, .int v0_size])), (a0_bytes, .inl (D.2 0, 400, .inl g0_bytes))]) ⟨hx, hb, hml, hown, hts⟩ (mX10_size l D a0 a0_bytes H.size v0_size r1 hr1) (cwV 0 hts gX6_lettersFrom_X10_size rfl rfl rfl (by decide +kernel) ⟨Nat.le_of_ble_eq_true rfl, Nat.le_of_ble_eq_true rfl⟩) hK hP hD hS hA [0] [1] [1, 0] rfl (by decide) rfl (by decide) (by decide) rfl (by decide) rfl rfl rfl hl.1 rfl (Nat.le_of_ble_eq_true rfl) dX6_lettersFrom_6 ⟨Nat.zero_le _, Nat.zero_le _⟩ (fun H locs hP hD hS => ?_)
      refine lv_icmp_ge (tgt := 31) hx hb dX6_lettersFrom_9 (by decide) (fun c_2 => ?_) (fun c_2 => ?_)
      · replace hf := ip c_2 hf
        refine lv_iload_n hx hb dX6_lettersFrom_31 rfl (lv_at hl 2 rfl) ?_
        have he := Option.some.inj hf
        rw [hQ]
        exact W.iret (v := x2) hx hb hr (fun t ht hW => by rw [← he]; exact ⟨⟨x2, (), rfl, rfl, by rw [ht]; exact hP, hD⟩, hS.F ht⟩) hS.2.2 dX6_lettersFrom_32
      · replace hf := im c_2 hf
        refine lv_aload_n hx hb dX6_lettersFrom_12 rfl (lv_at hl 0 rfl) ?_
        refine lv_iload_n hx hb dX6_lettersFrom_13 rfl (lv_at hl 1 rfl) ?_
        refine lv_iload_n hx hb dX6_lettersFrom_14 rfl (lv_at hl 2 rfl) ?_
        refine lv_iadd hx hb dX6_lettersFrom_15 ?_
        obtain ⟨r3, hr3, hf⟩ := bd hf
        refine zVi (As := [.int (p1 + x2)]) (rest := []) (ci := 7) (q0 := 0) (wn := [(a0, .inr (7, [.ref a0_bytes, .int v0_size])), (a0_bytes, .inl (D.2 0, 400, .inl g0_bytes))]) ⟨hx, hb, hml, hown, hts⟩ (mX10_at l D a0 a0_bytes H.size v0_size g0_bytes (p1 + x2) r3 hr3) (cwV 1 hts gX6_lettersFrom_X10_at rfl rfl rfl (by decide +kernel) ⟨Nat.le_of_ble_eq_true rfl, Nat.le_of_ble_eq_true rfl⟩) hK hP hD hS hA [0, 1] [] [0, 1] rfl (by decide) rfl (by decide) (by decide) rfl (by decide) rfl rfl rfl hl.1 rfl (Nat.le_of_ble_eq_true rfl) dX6_lettersFrom_16 ⟨Nat.zero_le _, Nat.zero_le _⟩ (fun H locs hP hD hS => ?_)
        obtain ⟨r4, hr4, hf⟩ := bd hf
        refine zNz (As := [.int r3]) (rest := []) (wn := [(a0, .inr (7, [.ref a0_bytes, .int v0_size])), (a0_bytes, .inl (D.2 0, 400, .inl g0_bytes))]) ⟨hx, hb, hml, hown, hts⟩ (mX11_isLetter l D H.size r3 r4 hr4) (⟨va_cnB 1 hts gX6_lettersFrom_X11_isLetter_n70 rfl rfl rfl hK.2.2.1 hin_X11 (by decide +kernel) ⟨Nat.le_of_ble_eq_true rfl, Nat.le_of_ble_eq_true rfl⟩, hst_X11_isLetter, trivial⟩) hK hP hD hS hA [] [0, 1] [0, 1] rfl (by decide) rfl (by decide) (by decide) rfl (by decide) rfl hl.1 rfl (Nat.le_of_ble_eq_true rfl) dX6_lettersFrom_19 ⟨Nat.zero_le _, Nat.zero_le _⟩ (fun H locs hb_5 hP hD hS => ?_)
        refine lv_if_eq (tgt := 31) hx hb dX6_lettersFrom_22 (by decide) (fun c_6 => ?_) (fun c_6 => ?_)
        · replace hf := ip c_6 hf
          refine lv_iload_n hx hb dX6_lettersFrom_31 rfl (lv_at hl 2 rfl) ?_
          have he := Option.some.inj hf
          rw [hQ]
          exact W.iret (v := x2) hx hb hr (fun t ht hW => by rw [← he]; exact ⟨⟨x2, (), rfl, rfl, by rw [ht]; exact hP, hD⟩, hS.F ht⟩) hS.2.2 dX6_lettersFrom_32
        · replace hf := im c_6 hf
          refine lv_iinc (v := (x2 + (1 : Int32))) (lv' := [(2, .int (x2 + (1 : Int32))), (0, .ref a0), (1, .int p1)]) hx hb dX6_lettersFrom_25 hl (k := 2) rfl rfl (by decide) rfl (fun ls hl => ?_)
          refine lv_goto (tgt := 2) hx hb dX6_lettersFrom_28 (by decide) ?_
          exact ih (x2 + (1 : Int32)) H locs ls hf hP hD hS (lv_sub hl [1, 2, 0] rfl)
  unfold fX6_lettersFrom at hf
  refine lv_iconst (v := 0) hx hb dX6_lettersFrom_0 (by decide) ?_
  refine lv_istore_n (lv' := [(2, .int (0 : Int32)), (0, .ref a0), (1, .int p1)]) hx hb dX6_lettersFrom_1 rfl hl (by decide) rfl (fun ls hl => ?_)
  exact k2 N (0 : Int32) H locs ls hf hP hD hS (lv_sub hl [1, 2, 0] rfl)
def fX6_isBlank (p0 : Int32) : Option (Int32) :=
  if p0 = (10 : Int32) then
    some ((1 : Int32))
  else
    if p0 = (32 : Int32) then
      some ((1 : Int32))
    else
      some ((0 : Int32))
set_option maxHeartbeats 4000000 in
set_option maxRecDepth 100000 in
theorem mX6_isBlank (l : Launch) (D : zG)  (sz : Nat)   (p0 : Int32) (res : Int32) (hf : fX6_isBlank p0 = some res) : Met l yX6_isBlank wsX6_isBlank ({ frames := 0, cells := 0, slots := 0, locals := 0 } : Room) (va_Pc [.int p0] (zW D sz [])) (va_Qi (fun r (_ : Unit) => r = res ∧ (r = 0 ∨ r = 1)) (fun _ => zB D (va_A [] sz) []) (va_A [] sz)) 0 0 (va_A [] sz) := by
  refine Met.ofW (cc := cX6_isBlank) (maxL := 1) (ret := (some .boolean)) (by decide) rfl ?_
  intro p e s m args below meth c s₁ B hml hv
  obtain ⟨rfl, hsz, hP, hK, hD0⟩ := hv
  have hx := B.exec
  have hb := B.bytes
  have hr := B.returns
  have hts := atoms_spec (ws := wsX6_isBlank) B.pre
  have hown : s.vm.findClass RX6 = some m.cls := findClass_of_methodNamed B.named
  have hlocks := B.notSynchronized
  subst hsz
  have hD := hD0.self (sz := s.heap.size)
  generalize hAe : va_A [] s.heap.size = A at hD ⊢
  have hA : ∀ q : Nat, s.heap.size ≤ q → A q := fun q h => by rw [← hAe]; exact Or.inr h
  have hl := lv_entry ([.int p0]) (n := 1) (Nat.le_of_ble_eq_true rfl)
  rw [lg_entry_eq]
  generalize (lg_sl ([.int p0]) ++ List.replicate (1 - (lg_sl ([.int p0])).length) Slot.unset).toArray = ls at hl ⊢
  have hl : lv_has ls 1 [(0, .int p0)] := hl
  refine zStart (A := A) hP (fun Q0 H locs hQ hP hS => ?_)
  unfold fX6_isBlank at hf
  refine lv_iload_n hx hb dX6_isBlank_0 rfl (lv_at hl 0 rfl) ?_
  refine lv_bipush (v := 10) hx hb dX6_isBlank_1 (by decide) ?_
  refine lv_icmp_eq (tgt := 12) hx hb dX6_isBlank_3 (by decide) (fun c_1 => ?_) (fun c_1 => ?_)
  · replace hf := ip c_1 hf
    refine lv_iconst (v := 1) hx hb dX6_isBlank_12 (by decide) ?_
    refine lv_goto (tgt := 17) hx hb dX6_isBlank_13 (by decide) ?_
    have he := Option.some.inj hf
    rw [hQ]
    exact W.zret (v := (1 : Int32)) hx hb hr (znb (Or.inr rfl)) (fun t ht hW => by rw [← he]; exact ⟨⟨(1 : Int32), (), rfl, ⟨rfl, Or.inr rfl⟩, by rw [ht]; exact hP, hD⟩, hS.F ht⟩) hS.2.2 dX6_isBlank_17
  · replace hf := im c_1 hf
    refine lv_iload_n hx hb dX6_isBlank_6 rfl (lv_at hl 0 rfl) ?_
    refine lv_bipush (v := 32) hx hb dX6_isBlank_7 (by decide) ?_
    refine lv_icmp_ne (tgt := 16) hx hb dX6_isBlank_9 (by decide) (fun c_2 => ?_) (fun c_2 => ?_)
    · replace hf := im c_2 hf
      refine lv_iconst (v := 0) hx hb dX6_isBlank_16 (by decide) ?_
      have he := Option.some.inj hf
      rw [hQ]
      exact W.zret (v := (0 : Int32)) hx hb hr (znb (Or.inl rfl)) (fun t ht hW => by rw [← he]; exact ⟨⟨(0 : Int32), (), rfl, ⟨rfl, Or.inl rfl⟩, by rw [ht]; exact hP, hD⟩, hS.F ht⟩) hS.2.2 dX6_isBlank_17
    · replace hf := ip c_2 hf
      refine lv_iconst (v := 1) hx hb dX6_isBlank_12 (by decide) ?_
      refine lv_goto (tgt := 17) hx hb dX6_isBlank_13 (by decide) ?_
      have he := Option.some.inj hf
      rw [hQ]
      exact W.zret (v := (1 : Int32)) hx hb hr (znb (Or.inr rfl)) (fun t ht hW => by rw [← he]; exact ⟨⟨(1 : Int32), (), rfl, ⟨rfl, Or.inr rfl⟩, by rw [ht]; exact hP, hD⟩, hS.F ht⟩) hS.2.2 dX6_isBlank_17
def fX6_rowFrom_5 (N : Nat) (v0_size : Int32) (g0_bytes : Nat → Int32) (p1 : Int32) (p2 : Int32) : Nat → Int64 → Int32 → Option (Int64)
  | 0, _, _ => none
  | K + 1, x3, x5 =>
    if p2 ≤ x5 then
      some (x3)
    else
      Option.bind (fX10_at v0_size g0_bytes (p1 + x5)) fun r2 =>
      Option.bind (fX8_put x3 x5 r2) fun r3 =>
      (fX6_rowFrom_5 N v0_size g0_bytes p1 p2 K) r3 (x5 + (1 : Int32))
def fX6_rowFrom (N : Nat) (v0_size : Int32) (g0_bytes : Nat → Int32) (p1 : Int32) (p2 : Int32) : Option (Int64) :=
  fX6_rowFrom_5 N v0_size g0_bytes p1 p2 N (0 : Int64) (0 : Int32)
set_option maxHeartbeats 4000000 in
set_option maxRecDepth 100000 in
theorem mX6_rowFrom (l : Launch) (D : zG) (a0 : Nat) (a0_bytes : Nat) (sz : Nat)  (v0_size : Int32) (g0_bytes : Nat → Int32) (p1 : Int32) (p2 : Int32) (N : Nat) (res : Int64) (hf : fX6_rowFrom N v0_size g0_bytes p1 p2 = some res) : Met l yX6_rowFrom wsX6_rowFrom ({ frames := 2, cells := 0, slots := 0, locals := 43 } : Room) (va_Pc [.ref a0, .int p1, .int p2] (zW D sz [(a0, .inr (7, [.ref a0_bytes, .int v0_size])), (a0_bytes, .inl (D.2 0, 400, .inl g0_bytes))])) (va_Ql (fun r (_ : Unit) => r = res) (fun _ => zB D (va_A [(a0, .inr (7, [.ref a0_bytes, .int v0_size])), (a0_bytes, .inl (D.2 0, 400, .inl g0_bytes))] sz) [(a0, .inr (7, [.ref a0_bytes, .int v0_size])), (a0_bytes, .inl (D.2 0, 400, .inl g0_bytes))]) (va_A [(a0, .inr (7, [.ref a0_bytes, .int v0_size])), (a0_bytes, .inl (D.2 0, 400, .inl g0_bytes))] sz)) 0 0 (va_A [(a0, .inr (7, [.ref a0_bytes, .int v0_size])), (a0_bytes, .inl (D.2 0, 400, .inl g0_bytes))] sz) := by
  refine Met.ofW (cc := cX6_rowFrom) (maxL := 6) (ret := (some .long)) (by decide) rfl ?_
  intro p e s m args below meth c s₁ B hml hv
  obtain ⟨rfl, hsz, hP, hK, hD0⟩ := hv
  have hx := B.exec
  have hb := B.bytes
  have hr := B.returns
  have hts := atoms_spec (ws := wsX6_rowFrom) B.pre
  have hown : s.vm.findClass RX6 = some m.cls := findClass_of_methodNamed B.named
  have hlocks := B.notSynchronized
  subst hsz
  have hD := hD0.self (sz := s.heap.size)
  generalize hAe : va_A [(a0, .inr (7, [.ref a0_bytes, .int v0_size])), (a0_bytes, .inl (D.2 0, 400, .inl g0_bytes))] s.heap.size = A at hD ⊢
  have hA : ∀ q : Nat, s.heap.size ≤ q → A q := fun q h => by rw [← hAe]; exact Or.inr h
  have hl := lv_entry ([.ref a0, .int p1, .int p2]) (n := 6) (Nat.le_of_ble_eq_true rfl)
  rw [lg_entry_eq]
  generalize (lg_sl ([.ref a0, .int p1, .int p2]) ++ List.replicate (6 - (lg_sl ([.ref a0, .int p1, .int p2])).length) Slot.unset).toArray = ls at hl ⊢
  have hl : lv_has ls 6 [(0, .ref a0), (1, .int p1), (2, .int p2)] := hl
  refine zStart (A := A) hP (fun Q0 H locs hQ hP hS => ?_)
  have k5 : ∀ K : Nat, ∀ (x3 : Int64) (x5 : Int32) (H : Heap) (locs : List Loc) (ls : Array Slot), fX6_rowFrom_5 N v0_size g0_bytes p1 p2 K x3 x5 = some res → va_P D.1 vwCl [(a0, .inr (7, [.ref a0_bytes, .int v0_size])), (a0_bytes, .inl (D.2 0, 400, .inl g0_bytes))] H → va_D A [(a0, .inr (7, [.ref a0_bytes, .int v0_size])), (a0_bytes, .inl (D.2 0, 400, .inl g0_bytes))] → va_S A s.heap H locs → lv_has ls 6 [(0, .ref a0), (1, .int p1), (2, .int p2), (3, .long x3), (5, .int x5)] → W p l e (headSpec wsX6_rowFrom ({ frames := 2, cells := 0, slots := 0, locals := 43 } : Room)).room s m ([.ref a0, .int p1, .int p2] : List Value).toArray below meth c H locs 0 0 Q0 (F0 m 5 ls []) := by
    intro K
    induction K with
    | zero =>
      intro x3 x5 H locs ls hf
      rw [fX6_rowFrom_5] at hf
      cases hf
    | succ K ih =>
      intro x3 x5 H locs ls hf hP hD hS hl
      rw [fX6_rowFrom_5] at hf
      refine lv_iload hx hb dX6_rowFrom_5 (lv_at hl 4 rfl) ?_
      refine lv_iload_n hx hb dX6_rowFrom_7 rfl (lv_at hl 2 rfl) ?_
      refine lv_icmp_ge (tgt := 32) hx hb dX6_rowFrom_8 (by decide) (fun c_1 => ?_) (fun c_1 => ?_)
      · replace hf := ip c_1 hf
        refine lv_lload_n hx hb dX6_rowFrom_32 rfl (lv_at hl 3 rfl) ?_
        have he := Option.some.inj hf
        rw [hQ]
        exact W.lret (v := x3) hx hb hr (fun t ht hW => by rw [← he]; exact ⟨⟨x3, (), rfl, rfl, by rw [ht]; exact hP, hD⟩, hS.F ht⟩) hS.2.2 dX6_rowFrom_33
      · replace hf := im c_1 hf
        refine lv_lload_n hx hb dX6_rowFrom_11 rfl (lv_at hl 3 rfl) ?_
        refine lv_iload hx hb dX6_rowFrom_12 (lv_at hl 4 rfl) ?_
        refine lv_aload_n hx hb dX6_rowFrom_14 rfl (lv_at hl 0 rfl) ?_
        refine lv_iload_n hx hb dX6_rowFrom_15 rfl (lv_at hl 1 rfl) ?_
        refine lv_iload hx hb dX6_rowFrom_16 (lv_at hl 4 rfl) ?_
        refine lv_iadd hx hb dX6_rowFrom_18 ?_
        obtain ⟨r2, hr2, hf⟩ := bd hf
        refine zVi (As := [.int (p1 + x5)]) (rest := [.int x5, .long x3]) (ci := 7) (q0 := 0) (wn := [(a0, .inr (7, [.ref a0_bytes, .int v0_size])), (a0_bytes, .inl (D.2 0, 400, .inl g0_bytes))]) ⟨hx, hb, hml, hown, hts⟩ (mX10_at l D a0 a0_bytes H.size v0_size g0_bytes (p1 + x5) r2 hr2) (cwV 1 hts gX6_rowFrom_X10_at rfl rfl rfl (by decide +kernel) ⟨Nat.le_of_ble_eq_true rfl, Nat.le_of_ble_eq_true rfl⟩) hK hP hD hS hA [0, 1] [] [0, 1] rfl (by decide) rfl (by decide) (by decide) rfl (by decide) rfl rfl rfl hl.1 rfl (Nat.le_of_ble_eq_true rfl) dX6_rowFrom_19 ⟨Nat.zero_le _, Nat.zero_le _⟩ (fun H locs hP hD hS => ?_)
        obtain ⟨r3, hr3, hf⟩ := bd hf
        refine zSl (As := [.long x3, .int x5, .int r2]) (rest := []) (wn := [(a0, .inr (7, [.ref a0_bytes, .int v0_size])), (a0_bytes, .inl (D.2 0, 400, .inl g0_bytes))]) ⟨hx, hb, hml, hown, hts⟩ (mX8_put l D H.size x3 x5 r2 r3 hr3) (va_cwS 3 hts gX6_rowFrom_X8_put rfl rfl rfl (by decide +kernel) ⟨Nat.le_of_ble_eq_true rfl, Nat.le_of_ble_eq_true rfl⟩) hK hP hD hS hA [] [0, 1] [0, 1] rfl (by decide) rfl (by decide) (by decide) rfl (by decide) rfl hl.1 rfl (Nat.le_of_ble_eq_true rfl) dX6_rowFrom_22 ⟨Nat.zero_le _, Nat.zero_le _⟩ (fun H locs hP hD hS => ?_)
        refine lv_lstore_n (lv' := [(3, .long r3), (0, .ref a0), (1, .int p1), (2, .int p2), (5, .int x5)]) hx hb dX6_rowFrom_25 rfl hl (by decide) rfl (fun ls hl => ?_)
        refine lv_iinc (v := (x5 + (1 : Int32))) (lv' := [(5, .int (x5 + (1 : Int32))), (3, .long r3), (0, .ref a0), (1, .int p1), (2, .int p2)]) hx hb dX6_rowFrom_26 hl (k := 4) rfl rfl (by decide) rfl (fun ls hl => ?_)
        refine lv_goto (tgt := 5) hx hb dX6_rowFrom_29 (by decide) ?_
        exact ih r3 (x5 + (1 : Int32)) H locs ls hf hP hD hS (lv_sub hl [2, 3, 4, 1, 0] rfl)
  unfold fX6_rowFrom at hf
  refine lv_lconst (v := 0) hx hb dX6_rowFrom_0 (by decide) ?_
  refine lv_lstore_n (lv' := [(3, .long (0 : Int64)), (0, .ref a0), (1, .int p1), (2, .int p2)]) hx hb dX6_rowFrom_1 rfl hl (by decide) rfl (fun ls hl => ?_)
  refine lv_iconst (v := 0) hx hb dX6_rowFrom_2 (by decide) ?_
  refine lv_istore (lv' := [(5, .int (0 : Int32)), (3, .long (0 : Int64)), (0, .ref a0), (1, .int p1), (2, .int p2)]) hx hb dX6_rowFrom_3 hl (by decide) rfl (fun ls hl => ?_)
  exact k5 N (0 : Int64) (0 : Int32) H locs ls hf hP hD hS (lv_sub hl [2, 3, 4, 1, 0] rfl)
def fX6_takeRow (N : Nat) (n3_rows : Nat) (v0_size : Int32) (g0_bytes : Nat → Int32) (v3_size : Int32) (g3_rows : Nat → Int64) (p1 : Int32) (p2 : Int32) : Option (Int32 × Int32 × (Nat → Int64)) :=
  if p2 = (0 : Int32) then
    Option.bind (fX10_at v0_size g0_bytes p1) fun r9 =>
    Option.bind (fX6_isBlank r9) fun r10 =>
    if r10 = (0 : Int32) then
      some ((1 : Int32), v3_size, g3_rows)
    else
      some ((0 : Int32), v3_size, g3_rows)
  else
    if p2 ≤ (7 : Int32) then
      Option.bind (fX7_size v3_size) fun r3 =>
      if r3 < (40 : Int32) then
        Option.bind (fX6_rowFrom N v0_size g0_bytes p1 p2) fun r5 =>
        Option.bind (fX7_add N n3_rows v3_size g3_rows r5) fun r6 =>
        if r6.1 = (0 : Int32) then
          some ((3 : Int32), r6.2.1, r6.2.2)
        else
          some ((0 : Int32), r6.2.1, r6.2.2)
      else
        some ((4 : Int32), v3_size, g3_rows)
    else
      some ((2 : Int32), v3_size, g3_rows)
set_option maxHeartbeats 4000000 in
set_option maxRecDepth 100000 in
theorem mX6_takeRow (l : Launch) (D : zG) (a0 : Nat) (a0_bytes : Nat) (a3 : Nat) (a3_rows : Nat) (sz : Nat) (n3_rows : Nat) (v0_size : Int32) (g0_bytes : Nat → Int32) (v3_size : Int32) (g3_rows : Nat → Int64) (p1 : Int32) (p2 : Int32) (N : Nat) (res : Int32 × Int32 × (Nat → Int64)) (hf : fX6_takeRow N n3_rows v0_size g0_bytes v3_size g3_rows p1 p2 = some res) : Met l yX6_takeRow wsX6_takeRow ({ frames := 3, cells := 0, slots := 0, locals := 68 } : Room) (va_Pc [.ref a0, .int p1, .int p2, .ref a3] (zW D sz [(a0, .inr (7, [.ref a0_bytes, .int v0_size])), (a0_bytes, .inl (D.2 0, 400, .inl g0_bytes)), (a3, .inr (5, [.ref a3_rows, .int v3_size])), (a3_rows, .inl (D.2 2, n3_rows, .inr (.inl g3_rows)))])) (va_Qi (fun r (_ : Unit) => r = res.1) (fun _ => zB D (va_A [(a0, .inr (7, [.ref a0_bytes, .int v0_size])), (a0_bytes, .inl (D.2 0, 400, .inl g0_bytes)), (a3, .inr (5, [.ref a3_rows, .int v3_size])), (a3_rows, .inl (D.2 2, n3_rows, .inr (.inl g3_rows)))] sz) [(a0, .inr (7, [.ref a0_bytes, .int v0_size])), (a0_bytes, .inl (D.2 0, 400, .inl g0_bytes)), (a3, .inr (5, [.ref a3_rows, .int res.2.1])), (a3_rows, .inl (D.2 2, n3_rows, .inr (.inl res.2.2)))]) (va_A [(a0, .inr (7, [.ref a0_bytes, .int v0_size])), (a0_bytes, .inl (D.2 0, 400, .inl g0_bytes)), (a3, .inr (5, [.ref a3_rows, .int v3_size])), (a3_rows, .inl (D.2 2, n3_rows, .inr (.inl g3_rows)))] sz)) 0 0 (va_A [(a0, .inr (7, [.ref a0_bytes, .int v0_size])), (a0_bytes, .inl (D.2 0, 400, .inl g0_bytes)), (a3, .inr (5, [.ref a3_rows, .int v3_size])), (a3_rows, .inl (D.2 2, n3_rows, .inr (.inl g3_rows)))] sz) := by
  refine Met.ofW (cc := cX6_takeRow) (maxL := 5) (ret := (some .int)) (by decide) rfl ?_
  intro p e s m args below meth c s₁ B hml hv
  obtain ⟨rfl, hsz, hP, hK, hD0⟩ := hv
  have hx := B.exec
  have hb := B.bytes
  have hr := B.returns
  have hts := atoms_spec (ws := wsX6_takeRow) B.pre
  have hown : s.vm.findClass RX6 = some m.cls := findClass_of_methodNamed B.named
  have hlocks := B.notSynchronized
  subst hsz
  have hD := hD0.self (sz := s.heap.size)
  generalize hAe : va_A [(a0, .inr (7, [.ref a0_bytes, .int v0_size])), (a0_bytes, .inl (D.2 0, 400, .inl g0_bytes)), (a3, .inr (5, [.ref a3_rows, .int v3_size])), (a3_rows, .inl (D.2 2, n3_rows, .inr (.inl g3_rows)))] s.heap.size = A at hD ⊢
  have hA : ∀ q : Nat, s.heap.size ≤ q → A q := fun q h => by rw [← hAe]; exact Or.inr h
  have hl := lv_entry ([.ref a0, .int p1, .int p2, .ref a3]) (n := 5) (Nat.le_of_ble_eq_true rfl)
  rw [lg_entry_eq]
  generalize (lg_sl ([.ref a0, .int p1, .int p2, .ref a3]) ++ List.replicate (5 - (lg_sl ([.ref a0, .int p1, .int p2, .ref a3])).length) Slot.unset).toArray = ls at hl ⊢
  have hl : lv_has ls 5 [(0, .ref a0), (1, .int p1), (2, .int p2), (3, .ref a3)] := hl
  refine zStart (A := A) hP (fun Q0 H locs hQ hP hS => ?_)
  unfold fX6_takeRow at hf
  refine lv_iload_n hx hb dX6_takeRow_0 rfl (lv_at hl 2 rfl) ?_
  refine lv_if_ne (tgt := 21) hx hb dX6_takeRow_1 (by decide) (fun c_1 => ?_) (fun c_1 => ?_)
  · replace hf := im c_1 hf
    refine lv_iload_n hx hb dX6_takeRow_21 rfl (lv_at hl 2 rfl) ?_
    refine lv_bipush (v := 7) hx hb dX6_takeRow_22 (by decide) ?_
    refine lv_icmp_le (tgt := 29) hx hb dX6_takeRow_24 (by decide) (fun c_2 => ?_) (fun c_2 => ?_)
    · replace hf := ip c_2 hf
      refine lv_aload_n hx hb dX6_takeRow_29 rfl (lv_at hl 3 rfl) ?_
      obtain ⟨r3, hr3, hf⟩ := bd hf
      refine zVi (As := []) (rest := []) (ci := 5) (q0 := 0) (wn := [(a0, .inr (7, [.ref a0_bytes, .int v0_size])), (a0_bytes, .inl (D.2 0, 400, .inl g0_bytes)), (a3, .inr (5, [.ref a3_rows, .int v3_size])), (a3_rows, .inl (D.2 2, n3_rows, .inr (.inl g3_rows)))]) ⟨hx, hb, hml, hown, hts⟩ (mX7_size l D a3 a3_rows H.size v3_size r3 hr3) (cwV 0 hts gX6_takeRow_X7_size rfl rfl rfl (by decide +kernel) ⟨Nat.le_of_ble_eq_true rfl, Nat.le_of_ble_eq_true rfl⟩) hK hP hD hS hA [2] [0, 1, 3] [0, 1, 3, 2] rfl (by decide) rfl (by decide) (by decide) rfl (by decide) rfl rfl rfl hl.1 rfl (Nat.le_of_ble_eq_true rfl) dX6_takeRow_30 ⟨Nat.zero_le _, Nat.zero_le _⟩ (fun H locs hP hD hS => ?_)
      refine lv_bipush (v := 40) hx hb dX6_takeRow_33 (by decide) ?_
      refine lv_icmp_lt (tgt := 40) hx hb dX6_takeRow_35 (by decide) (fun c_4 => ?_) (fun c_4 => ?_)
      · replace hf := ip c_4 hf
        refine lv_aload_n hx hb dX6_takeRow_40 rfl (lv_at hl 3 rfl) ?_
        refine lv_aload_n hx hb dX6_takeRow_41 rfl (lv_at hl 0 rfl) ?_
        refine lv_iload_n hx hb dX6_takeRow_42 rfl (lv_at hl 1 rfl) ?_
        refine lv_iload_n hx hb dX6_takeRow_43 rfl (lv_at hl 2 rfl) ?_
        obtain ⟨r5, hr5, hf⟩ := bd hf
        refine zSl (As := [.ref a0, .int p1, .int p2]) (rest := [.ref a3]) (wn := [(a0, .inr (7, [.ref a0_bytes, .int v0_size])), (a0_bytes, .inl (D.2 0, 400, .inl g0_bytes)), (a3, .inr (5, [.ref a3_rows, .int v3_size])), (a3_rows, .inl (D.2 2, n3_rows, .inr (.inl g3_rows)))]) ⟨hx, hb, hml, hown, hts⟩ (mX6_rowFrom l D a0 a0_bytes H.size v0_size g0_bytes p1 p2 N r5 hr5) (va_cwS 3 hts gX6_takeRow_X6_rowFrom rfl rfl rfl (by decide +kernel) ⟨Nat.le_of_ble_eq_true rfl, Nat.le_of_ble_eq_true rfl⟩) hK hP hD hS hA [0, 1] [2, 3] [2, 3, 0, 1] rfl (by decide) rfl (by decide) (by decide) rfl (by decide) rfl hl.1 rfl (Nat.le_of_ble_eq_true rfl) dX6_takeRow_44 ⟨Nat.zero_le _, Nat.zero_le _⟩ (fun H locs hP hD hS => ?_)
        obtain ⟨r6, hr6, hf⟩ := bd hf
        refine zVz (As := [.long r5]) (rest := []) (ci := 5) (q0 := 0) (wn := [(a0, .inr (7, [.ref a0_bytes, .int v0_size])), (a0_bytes, .inl (D.2 0, 400, .inl g0_bytes)), (a3, .inr (5, [.ref a3_rows, .int r6.2.1])), (a3_rows, .inl (D.2 2, n3_rows, .inr (.inl r6.2.2)))]) ⟨hx, hb, hml, hown, hts⟩ (mX7_add l D a3 a3_rows H.size n3_rows v3_size g3_rows r5 N r6 hr6) (cwV 1 hts gX6_takeRow_X7_add rfl rfl rfl (by decide +kernel) ⟨Nat.le_of_ble_eq_true rfl, Nat.le_of_ble_eq_true rfl⟩) hK hP hD hS hA [2, 3] [0, 1] [0, 1, 2, 3] rfl (by decide) rfl (by decide) (by decide) rfl (by decide) rfl rfl rfl hl.1 rfl (Nat.le_of_ble_eq_true rfl) dX6_takeRow_47 ⟨Nat.zero_le _, Nat.zero_le _⟩ (fun H locs hb_7 hP hD hS => ?_)
        refine lv_istore (lv' := [(4, .int r6.1), (0, .ref a0), (1, .int p1), (2, .int p2), (3, .ref a3)]) hx hb dX6_takeRow_50 hl (by decide) rfl (fun ls hl => ?_)
        refine lv_iload hx hb dX6_takeRow_52 (lv_at hl 0 rfl) ?_
        refine lv_if_eq (tgt := 61) hx hb dX6_takeRow_54 (by decide) (fun c_8 => ?_) (fun c_8 => ?_)
        · replace hf := ip c_8 hf
          refine lv_iconst (v := 3) hx hb dX6_takeRow_61 (by decide) ?_
          have he := Option.some.inj hf
          rw [hQ]
          exact W.iret (v := (3 : Int32)) hx hb hr (fun t ht hW => by rw [← he]; exact ⟨⟨(3 : Int32), (), rfl, rfl, by rw [ht]; exact hP, hD⟩, hS.F ht⟩) hS.2.2 dX6_takeRow_62
        · replace hf := im c_8 hf
          refine lv_iconst (v := 0) hx hb dX6_takeRow_57 (by decide) ?_
          refine lv_goto (tgt := 62) hx hb dX6_takeRow_58 (by decide) ?_
          have he := Option.some.inj hf
          rw [hQ]
          exact W.iret (v := (0 : Int32)) hx hb hr (fun t ht hW => by rw [← he]; exact ⟨⟨(0 : Int32), (), rfl, rfl, by rw [ht]; exact hP, hD⟩, hS.F ht⟩) hS.2.2 dX6_takeRow_62
      · replace hf := im c_4 hf
        refine lv_iconst (v := 4) hx hb dX6_takeRow_38 (by decide) ?_
        have he := Option.some.inj hf
        rw [hQ]
        exact W.iret (v := (4 : Int32)) hx hb hr (fun t ht hW => by rw [← he]; exact ⟨⟨(4 : Int32), (), rfl, rfl, by rw [ht]; exact hP, hD⟩, hS.F ht⟩) hS.2.2 dX6_takeRow_39
    · replace hf := im c_2 hf
      refine lv_iconst (v := 2) hx hb dX6_takeRow_27 (by decide) ?_
      have he := Option.some.inj hf
      rw [hQ]
      exact W.iret (v := (2 : Int32)) hx hb hr (fun t ht hW => by rw [← he]; exact ⟨⟨(2 : Int32), (), rfl, rfl, by rw [ht]; exact hP, hD⟩, hS.F ht⟩) hS.2.2 dX6_takeRow_28
  · replace hf := ip c_1 hf
    refine lv_aload_n hx hb dX6_takeRow_4 rfl (lv_at hl 0 rfl) ?_
    refine lv_iload_n hx hb dX6_takeRow_5 rfl (lv_at hl 1 rfl) ?_
    obtain ⟨r9, hr9, hf⟩ := bd hf
    refine zVi (As := [.int p1]) (rest := []) (ci := 7) (q0 := 0) (wn := [(a0, .inr (7, [.ref a0_bytes, .int v0_size])), (a0_bytes, .inl (D.2 0, 400, .inl g0_bytes)), (a3, .inr (5, [.ref a3_rows, .int v3_size])), (a3_rows, .inl (D.2 2, n3_rows, .inr (.inl g3_rows)))]) ⟨hx, hb, hml, hown, hts⟩ (mX10_at l D a0 a0_bytes H.size v0_size g0_bytes p1 r9 hr9) (cwV 1 hts gX6_takeRow_X10_at rfl rfl rfl (by decide +kernel) ⟨Nat.le_of_ble_eq_true rfl, Nat.le_of_ble_eq_true rfl⟩) hK hP hD hS hA [0, 1] [2, 3] [2, 3, 0, 1] rfl (by decide) rfl (by decide) (by decide) rfl (by decide) rfl rfl rfl hl.1 rfl (Nat.le_of_ble_eq_true rfl) dX6_takeRow_6 ⟨Nat.zero_le _, Nat.zero_le _⟩ (fun H locs hP hD hS => ?_)
    obtain ⟨r10, hr10, hf⟩ := bd hf
    refine zSz (As := [.int r9]) (rest := []) (wn := [(a0, .inr (7, [.ref a0_bytes, .int v0_size])), (a0_bytes, .inl (D.2 0, 400, .inl g0_bytes)), (a3, .inr (5, [.ref a3_rows, .int v3_size])), (a3_rows, .inl (D.2 2, n3_rows, .inr (.inl g3_rows)))]) ⟨hx, hb, hml, hown, hts⟩ (mX6_isBlank l D H.size r9 r10 hr10) (va_cwS 1 hts gX6_takeRow_X6_isBlank rfl rfl rfl (by decide +kernel) ⟨Nat.le_of_ble_eq_true rfl, Nat.le_of_ble_eq_true rfl⟩) hK hP hD hS hA [] [0, 1, 2, 3] [0, 1, 2, 3] rfl (by decide) rfl (by decide) (by decide) rfl (by decide) rfl hl.1 rfl (Nat.le_of_ble_eq_true rfl) dX6_takeRow_9 ⟨Nat.zero_le _, Nat.zero_le _⟩ (fun H locs hb_11 hP hD hS => ?_)
    refine lv_if_eq (tgt := 19) hx hb dX6_takeRow_12 (by decide) (fun c_12 => ?_) (fun c_12 => ?_)
    · replace hf := ip c_12 hf
      refine lv_iconst (v := 1) hx hb dX6_takeRow_19 (by decide) ?_
      have he := Option.some.inj hf
      rw [hQ]
      exact W.iret (v := (1 : Int32)) hx hb hr (fun t ht hW => by rw [← he]; exact ⟨⟨(1 : Int32), (), rfl, rfl, by rw [ht]; exact hP, hD⟩, hS.F ht⟩) hS.2.2 dX6_takeRow_20
    · replace hf := im c_12 hf
      refine lv_iconst (v := 0) hx hb dX6_takeRow_15 (by decide) ?_
      refine lv_goto (tgt := 20) hx hb dX6_takeRow_16 (by decide) ?_
      have he := Option.some.inj hf
      rw [hQ]
      exact W.iret (v := (0 : Int32)) hx hb hr (fun t ht hW => by rw [← he]; exact ⟨⟨(0 : Int32), (), rfl, rfl, by rw [ht]; exact hP, hD⟩, hS.F ht⟩) hS.2.2 dX6_takeRow_20
def fX6_readWords_61 (N : Nat) (n1_rows : Nat) (v0_size : Int32) (g0_bytes : Nat → Int32) (rec12 : Int32 → Int32 → (Nat → Int64) → Int32 → Int32 → Option (Int32 × (Nat → Int64) × Int32 × Int32)) (y1 : Int32) (y2 : Int32) (x3 : Int32) (x4 : Int32) (v1_size : Int32) (g1_rows : Nat → Int64) (v2_kind : Int32) (v2_place : Int32) : Option (Int32 × (Nat → Int64) × Int32 × Int32) :=
  Option.bind (fX2_set v2_kind v2_place y1 y2) fun r11 =>
  rec12 (x3 + (if x4 < (1 : Int32) then (1 : Int32) else x4)) v1_size g1_rows r11.1 r11.2
def fX6_readWords_12 (N : Nat) (n1_rows : Nat) (v0_size : Int32) (g0_bytes : Nat → Int32) : Nat → Int32 → Int32 → (Nat → Int64) → Int32 → Int32 → Option (Int32 × (Nat → Int64) × Int32 × Int32)
  | 0, _, _, _, _, _ => none
  | K + 1, x3, v1_size, g1_rows, v2_kind, v2_place =>
    Option.bind (fX10_size v0_size) fun r3 =>
    if r3 ≤ x3 then
      some (v1_size, g1_rows, v2_kind, v2_place)
    else
      Option.bind (fX2_isThere v2_kind) fun r5 =>
      if r5 = (0 : Int32) then
        Option.bind (fX6_lettersFrom N v0_size g0_bytes x3) fun r8 =>
        Option.bind (fX6_takeRow N n1_rows v0_size g0_bytes v1_size g1_rows x3 r8) fun r9 =>
        if r9.1 = (2 : Int32) then
          fX6_readWords_61 N n1_rows v0_size g0_bytes (fX6_readWords_12 N n1_rows v0_size g0_bytes K) r9.1 (x3 + (7 : Int32)) x3 r8 r9.2.1 r9.2.2 v2_kind v2_place
        else
          fX6_readWords_61 N n1_rows v0_size g0_bytes (fX6_readWords_12 N n1_rows v0_size g0_bytes K) r9.1 x3 x3 r8 r9.2.1 r9.2.2 v2_kind v2_place
      else
        some (v1_size, g1_rows, v2_kind, v2_place)
def fX6_readWords (N : Nat) (n1_rows : Nat) (v0_size : Int32) (g0_bytes : Nat → Int32) (v1_size : Int32) (g1_rows : Nat → Int64) (v2_kind : Int32) (v2_place : Int32) : Option (Int32 × (Nat → Int64) × Int32 × Int32) :=
  Option.bind (fX7_clear v1_size) fun r1 =>
  Option.bind (fX2_set v2_kind v2_place (0 : Int32) (-1 : Int32)) fun r2 =>
  fX6_readWords_12 N n1_rows v0_size g0_bytes N (0 : Int32) r1 g1_rows r2.1 r2.2
set_option maxHeartbeats 4000000 in
set_option maxRecDepth 100000 in
theorem mX6_readWords (l : Launch) (D : zG) (a0 : Nat) (a0_bytes : Nat) (a1 : Nat) (a1_rows : Nat) (a2 : Nat) (sz : Nat) (n1_rows : Nat) (v0_size : Int32) (g0_bytes : Nat → Int32) (v1_size : Int32) (g1_rows : Nat → Int64) (v2_kind : Int32) (v2_place : Int32)  (N : Nat) (res : Int32 × (Nat → Int64) × Int32 × Int32) (hf : fX6_readWords N n1_rows v0_size g0_bytes v1_size g1_rows v2_kind v2_place = some res) : Met l yX6_readWords wsX6_readWords ({ frames := 4, cells := 0, slots := 0, locals := 92 } : Room) (va_Pc [.ref a0, .ref a1, .ref a2] (zW D sz [(a0, .inr (7, [.ref a0_bytes, .int v0_size])), (a0_bytes, .inl (D.2 0, 400, .inl g0_bytes)), (a1, .inr (5, [.ref a1_rows, .int v1_size])), (a1_rows, .inl (D.2 2, n1_rows, .inr (.inl g1_rows))), (a2, .inr (1, [.int v2_kind, .int v2_place]))])) (va_Qv (fun (_ : Unit) => True) (fun _ => zB D (va_A [(a0, .inr (7, [.ref a0_bytes, .int v0_size])), (a0_bytes, .inl (D.2 0, 400, .inl g0_bytes)), (a1, .inr (5, [.ref a1_rows, .int v1_size])), (a1_rows, .inl (D.2 2, n1_rows, .inr (.inl g1_rows))), (a2, .inr (1, [.int v2_kind, .int v2_place]))] sz) [(a0, .inr (7, [.ref a0_bytes, .int v0_size])), (a0_bytes, .inl (D.2 0, 400, .inl g0_bytes)), (a1, .inr (5, [.ref a1_rows, .int res.1])), (a1_rows, .inl (D.2 2, n1_rows, .inr (.inl res.2.1))), (a2, .inr (1, [.int res.2.2.1, .int res.2.2.2]))]) (va_A [(a0, .inr (7, [.ref a0_bytes, .int v0_size])), (a0_bytes, .inl (D.2 0, 400, .inl g0_bytes)), (a1, .inr (5, [.ref a1_rows, .int v1_size])), (a1_rows, .inl (D.2 2, n1_rows, .inr (.inl g1_rows))), (a2, .inr (1, [.int v2_kind, .int v2_place]))] sz)) 0 0 (va_A [(a0, .inr (7, [.ref a0_bytes, .int v0_size])), (a0_bytes, .inl (D.2 0, 400, .inl g0_bytes)), (a1, .inr (5, [.ref a1_rows, .int v1_size])), (a1_rows, .inl (D.2 2, n1_rows, .inr (.inl g1_rows))), (a2, .inr (1, [.int v2_kind, .int v2_place]))] sz) := by
  refine Met.ofW (cc := cX6_readWords) (maxL := 6) (ret := none) (by decide) rfl ?_
  intro p e s m args below meth c s₁ B hml hv
  obtain ⟨rfl, hsz, hP, hK, hD0⟩ := hv
  have hx := B.exec
  have hb := B.bytes
  have hr := B.returns
  have hts := atoms_spec (ws := wsX6_readWords) B.pre
  have hown : s.vm.findClass RX6 = some m.cls := findClass_of_methodNamed B.named
  have hlocks := B.notSynchronized
  subst hsz
  have hD := hD0.self (sz := s.heap.size)
  generalize hAe : va_A [(a0, .inr (7, [.ref a0_bytes, .int v0_size])), (a0_bytes, .inl (D.2 0, 400, .inl g0_bytes)), (a1, .inr (5, [.ref a1_rows, .int v1_size])), (a1_rows, .inl (D.2 2, n1_rows, .inr (.inl g1_rows))), (a2, .inr (1, [.int v2_kind, .int v2_place]))] s.heap.size = A at hD ⊢
  have hA : ∀ q : Nat, s.heap.size ≤ q → A q := fun q h => by rw [← hAe]; exact Or.inr h
  have l40 := zat hts 1 (w := .methodLink RX6 40 Lib.Math.max.name) rfl
  have hstmax := zat hts 2 (w := .static Lib.Math.max.name) rfl
  have hinM := zat hts 3 (w := .initialized "java/lang/Math") rfl
  have hcdmax := zat hts 4 (w := .code Lib.Math.max.name Lib.Math.max.code 2 (some .int)) rfl
  have hl := lv_entry ([.ref a0, .ref a1, .ref a2]) (n := 6) (Nat.le_of_ble_eq_true rfl)
  rw [lg_entry_eq]
  generalize (lg_sl ([.ref a0, .ref a1, .ref a2]) ++ List.replicate (6 - (lg_sl ([.ref a0, .ref a1, .ref a2])).length) Slot.unset).toArray = ls at hl ⊢
  have hl : lv_has ls 6 [(0, .ref a0), (1, .ref a1), (2, .ref a2)] := hl
  refine zStart (A := A) hP (fun Q0 H locs hQ hP hS => ?_)
  have k61 : ∀ (rec12 : Int32 → Int32 → (Nat → Int64) → Int32 → Int32 → Option (Int32 × (Nat → Int64) × Int32 × Int32)), (∀ (x3 : Int32) (v1_size : Int32) (g1_rows : Nat → Int64) (v2_kind : Int32) (v2_place : Int32) (H : Heap) (locs : List Loc) (ls : Array Slot), rec12 x3 v1_size g1_rows v2_kind v2_place = some res → va_P D.1 vwCl [(a0, .inr (7, [.ref a0_bytes, .int v0_size])), (a0_bytes, .inl (D.2 0, 400, .inl g0_bytes)), (a1, .inr (5, [.ref a1_rows, .int v1_size])), (a1_rows, .inl (D.2 2, n1_rows, .inr (.inl g1_rows))), (a2, .inr (1, [.int v2_kind, .int v2_place]))] H → va_D A [(a0, .inr (7, [.ref a0_bytes, .int v0_size])), (a0_bytes, .inl (D.2 0, 400, .inl g0_bytes)), (a1, .inr (5, [.ref a1_rows, .int v1_size])), (a1_rows, .inl (D.2 2, n1_rows, .inr (.inl g1_rows))), (a2, .inr (1, [.int v2_kind, .int v2_place]))] → va_S A s.heap H locs → lv_has ls 6 [(0, .ref a0), (1, .ref a1), (2, .ref a2), (3, .int x3)] → W p l e (headSpec wsX6_readWords ({ frames := 4, cells := 0, slots := 0, locals := 92 } : Room)).room s m ([.ref a0, .ref a1, .ref a2] : List Value).toArray below meth c H locs 0 0 Q0 (F0 m 12 ls [])) → ∀ (y1 : Int32) (y2 : Int32) (x3 : Int32) (x4 : Int32) (v1_size : Int32) (g1_rows : Nat → Int64) (v2_kind : Int32) (v2_place : Int32) (H : Heap) (locs : List Loc) (ls : Array Slot), fX6_readWords_61 N n1_rows v0_size g0_bytes rec12 y1 y2 x3 x4 v1_size g1_rows v2_kind v2_place = some res → va_P D.1 vwCl [(a0, .inr (7, [.ref a0_bytes, .int v0_size])), (a0_bytes, .inl (D.2 0, 400, .inl g0_bytes)), (a1, .inr (5, [.ref a1_rows, .int v1_size])), (a1_rows, .inl (D.2 2, n1_rows, .inr (.inl g1_rows))), (a2, .inr (1, [.int v2_kind, .int v2_place]))] H → va_D A [(a0, .inr (7, [.ref a0_bytes, .int v0_size])), (a0_bytes, .inl (D.2 0, 400, .inl g0_bytes)), (a1, .inr (5, [.ref a1_rows, .int v1_size])), (a1_rows, .inl (D.2 2, n1_rows, .inr (.inl g1_rows))), (a2, .inr (1, [.int v2_kind, .int v2_place]))] → va_S A s.heap H locs → lv_has ls 6 [(0, .ref a0), (1, .ref a1), (2, .ref a2), (3, .int x3), (4, .int x4)] → W p l e (headSpec wsX6_readWords ({ frames := 4, cells := 0, slots := 0, locals := 92 } : Room)).room s m ([.ref a0, .ref a1, .ref a2] : List Value).toArray below meth c H locs 0 0 Q0 (F0 m 61 ls [.int y2, .int y1, .ref a2]) := by
    intro rec12 hrec12 y1 y2 x3 x4 v1_size g1_rows v2_kind v2_place H locs ls hf hP hD hS hl
    unfold fX6_readWords_61 at hf
    obtain ⟨r11, hr11, hf⟩ := bd hf
    refine zVv (As := [.int y1, .int y2]) (rest := []) (ci := 1) (q0 := 0) (wn := [(a0, .inr (7, [.ref a0_bytes, .int v0_size])), (a0_bytes, .inl (D.2 0, 400, .inl g0_bytes)), (a1, .inr (5, [.ref a1_rows, .int v1_size])), (a1_rows, .inl (D.2 2, n1_rows, .inr (.inl g1_rows))), (a2, .inr (1, [.int r11.1, .int r11.2]))]) ⟨hx, hb, hml, hown, hts⟩ (mX2_set l D a2 H.size v2_kind v2_place y1 y2 r11 hr11) (cwV 2 hts gX6_readWords_X2_set rfl rfl rfl (by decide +kernel) ⟨Nat.le_of_ble_eq_true rfl, Nat.le_of_ble_eq_true rfl⟩) hK hP hD hS hA [4] [0, 1, 2, 3] [0, 1, 2, 3, 4] rfl (by decide) rfl (by decide) (by decide) rfl (by decide) rfl rfl rfl hl.1 rfl (Nat.le_of_ble_eq_true rfl) dX6_readWords_61 ⟨Nat.zero_le _, Nat.zero_le _⟩ (fun H locs hP hD hS => ?_)
    refine lv_iload_n hx hb dX6_readWords_64 rfl (lv_at hl 3 rfl) ?_
    refine lv_iload hx hb dX6_readWords_65 (lv_at hl 4 rfl) ?_
    refine lv_iconst (v := 1) hx hb dX6_readWords_67 (by decide) ?_
    refine va_mmax hx hb (hml.trans hl.1.symm) hown l40 hstmax hinM hcdmax (Nat.le_of_ble_eq_true rfl) (Nat.le_of_ble_eq_true rfl) (Nat.zero_le _) (Nat.zero_le _) dX6_readWords_68 ?_
    refine lv_iadd hx hb dX6_readWords_71 ?_
    refine lv_istore_n (lv' := [(3, .int (x3 + (if x4 < (1 : Int32) then (1 : Int32) else x4))), (0, .ref a0), (1, .ref a1), (2, .ref a2), (4, .int x4)]) hx hb dX6_readWords_72 rfl hl (by decide) rfl (fun ls hl => ?_)
    refine lv_goto (tgt := 12) hx hb dX6_readWords_73 (by decide) ?_
    exact hrec12 (x3 + (if x4 < (1 : Int32) then (1 : Int32) else x4)) v1_size g1_rows r11.1 r11.2 H locs ls hf hP hD hS (lv_sub hl [1, 2, 3, 0] rfl)
  have k12 : ∀ K : Nat, ∀ (x3 : Int32) (v1_size : Int32) (g1_rows : Nat → Int64) (v2_kind : Int32) (v2_place : Int32) (H : Heap) (locs : List Loc) (ls : Array Slot), fX6_readWords_12 N n1_rows v0_size g0_bytes K x3 v1_size g1_rows v2_kind v2_place = some res → va_P D.1 vwCl [(a0, .inr (7, [.ref a0_bytes, .int v0_size])), (a0_bytes, .inl (D.2 0, 400, .inl g0_bytes)), (a1, .inr (5, [.ref a1_rows, .int v1_size])), (a1_rows, .inl (D.2 2, n1_rows, .inr (.inl g1_rows))), (a2, .inr (1, [.int v2_kind, .int v2_place]))] H → va_D A [(a0, .inr (7, [.ref a0_bytes, .int v0_size])), (a0_bytes, .inl (D.2 0, 400, .inl g0_bytes)), (a1, .inr (5, [.ref a1_rows, .int v1_size])), (a1_rows, .inl (D.2 2, n1_rows, .inr (.inl g1_rows))), (a2, .inr (1, [.int v2_kind, .int v2_place]))] → va_S A s.heap H locs → lv_has ls 6 [(0, .ref a0), (1, .ref a1), (2, .ref a2), (3, .int x3)] → W p l e (headSpec wsX6_readWords ({ frames := 4, cells := 0, slots := 0, locals := 92 } : Room)).room s m ([.ref a0, .ref a1, .ref a2] : List Value).toArray below meth c H locs 0 0 Q0 (F0 m 12 ls []) := by
    intro K
    induction K with
    | zero =>
      intro x3 v1_size g1_rows v2_kind v2_place H locs ls hf
      rw [fX6_readWords_12] at hf
      cases hf
    | succ K ih =>
      intro x3 v1_size g1_rows v2_kind v2_place H locs ls hf hP hD hS hl
      rw [fX6_readWords_12] at hf
      refine lv_iload_n hx hb dX6_readWords_12 rfl (lv_at hl 3 rfl) ?_
      refine lv_aload_n hx hb dX6_readWords_13 rfl (lv_at hl 0 rfl) ?_
      obtain ⟨r3, hr3, hf⟩ := bd hf
      refine zVi (As := []) (rest := [.int x3]) (ci := 7) (q0 := 0) (wn := [(a0, .inr (7, [.ref a0_bytes, .int v0_size])), (a0_bytes, .inl (D.2 0, 400, .inl g0_bytes)), (a1, .inr (5, [.ref a1_rows, .int v1_size])), (a1_rows, .inl (D.2 2, n1_rows, .inr (.inl g1_rows))), (a2, .inr (1, [.int v2_kind, .int v2_place]))]) ⟨hx, hb, hml, hown, hts⟩ (mX10_size l D a0 a0_bytes H.size v0_size r3 hr3) (cwV 0 hts gX6_readWords_X10_size rfl rfl rfl (by decide +kernel) ⟨Nat.le_of_ble_eq_true rfl, Nat.le_of_ble_eq_true rfl⟩) hK hP hD hS hA [0] [1, 2, 3, 4] [4, 0, 1, 2, 3] rfl (by decide) rfl (by decide) (by decide) rfl (by decide) rfl rfl rfl hl.1 rfl (Nat.le_of_ble_eq_true rfl) dX6_readWords_14 ⟨Nat.zero_le _, Nat.zero_le _⟩ (fun H locs hP hD hS => ?_)
      refine lv_icmp_ge (tgt := 76) hx hb dX6_readWords_17 (by decide) (fun c_4 => ?_) (fun c_4 => ?_)
      · replace hf := ip c_4 hf
        have he := Option.some.inj hf
        rw [hQ]
        exact W.vret hx hb hr (fun t ht hW => by rw [← he]; exact ⟨⟨(), rfl, trivial, by rw [ht]; exact hP, hD⟩, hS.F ht⟩) hS.2.2 dX6_readWords_76
      · replace hf := im c_4 hf
        refine lv_aload_n hx hb dX6_readWords_20 rfl (lv_at hl 2 rfl) ?_
        obtain ⟨r5, hr5, hf⟩ := bd hf
        refine zVz (As := []) (rest := []) (ci := 1) (q0 := 0) (wn := [(a0, .inr (7, [.ref a0_bytes, .int v0_size])), (a0_bytes, .inl (D.2 0, 400, .inl g0_bytes)), (a1, .inr (5, [.ref a1_rows, .int v1_size])), (a1_rows, .inl (D.2 2, n1_rows, .inr (.inl g1_rows))), (a2, .inr (1, [.int v2_kind, .int v2_place]))]) ⟨hx, hb, hml, hown, hts⟩ (mX2_isThere l D a2 H.size v2_kind v2_place r5 hr5) (cwV 0 hts gX6_readWords_X2_isThere rfl rfl rfl (by decide +kernel) ⟨Nat.le_of_ble_eq_true rfl, Nat.le_of_ble_eq_true rfl⟩) hK hP hD hS hA [4] [0, 1, 2, 3] [0, 1, 2, 3, 4] rfl (by decide) rfl (by decide) (by decide) rfl (by decide) rfl rfl rfl hl.1 rfl (Nat.le_of_ble_eq_true rfl) dX6_readWords_21 ⟨Nat.zero_le _, Nat.zero_le _⟩ (fun H locs hb_6 hP hD hS => ?_)
        refine lv_if_ne (tgt := 76) hx hb dX6_readWords_24 (by decide) (fun c_7 => ?_) (fun c_7 => ?_)
        · replace hf := im c_7 hf
          have he := Option.some.inj hf
          rw [hQ]
          exact W.vret hx hb hr (fun t ht hW => by rw [← he]; exact ⟨⟨(), rfl, trivial, by rw [ht]; exact hP, hD⟩, hS.F ht⟩) hS.2.2 dX6_readWords_76
        · replace hf := ip c_7 hf
          refine lv_aload_n hx hb dX6_readWords_27 rfl (lv_at hl 0 rfl) ?_
          refine lv_iload_n hx hb dX6_readWords_28 rfl (lv_at hl 3 rfl) ?_
          obtain ⟨r8, hr8, hf⟩ := bd hf
          refine zSi (As := [.ref a0, .int x3]) (rest := []) (wn := [(a0, .inr (7, [.ref a0_bytes, .int v0_size])), (a0_bytes, .inl (D.2 0, 400, .inl g0_bytes)), (a1, .inr (5, [.ref a1_rows, .int v1_size])), (a1_rows, .inl (D.2 2, n1_rows, .inr (.inl g1_rows))), (a2, .inr (1, [.int v2_kind, .int v2_place]))]) ⟨hx, hb, hml, hown, hts⟩ (mX6_lettersFrom l D a0 a0_bytes H.size v0_size g0_bytes x3 N r8 hr8) (va_cwS 2 hts gX6_readWords_X6_lettersFrom rfl rfl rfl (by decide +kernel) ⟨Nat.le_of_ble_eq_true rfl, Nat.le_of_ble_eq_true rfl⟩) hK hP hD hS hA [0, 1] [2, 3, 4] [3, 4, 0, 1, 2] rfl (by decide) rfl (by decide) (by decide) rfl (by decide) rfl hl.1 rfl (Nat.le_of_ble_eq_true rfl) dX6_readWords_29 ⟨Nat.zero_le _, Nat.zero_le _⟩ (fun H locs hP hD hS => ?_)
          refine lv_istore (lv' := [(4, .int r8), (0, .ref a0), (1, .ref a1), (2, .ref a2), (3, .int x3)]) hx hb dX6_readWords_32 hl (by decide) rfl (fun ls hl => ?_)
          refine lv_aload_n hx hb dX6_readWords_34 rfl (lv_at hl 1 rfl) ?_
          refine lv_iload_n hx hb dX6_readWords_35 rfl (lv_at hl 4 rfl) ?_
          refine lv_iload hx hb dX6_readWords_36 (lv_at hl 0 rfl) ?_
          refine lv_aload_n hx hb dX6_readWords_38 rfl (lv_at hl 2 rfl) ?_
          obtain ⟨r9, hr9, hf⟩ := bd hf
          refine zSi (As := [.ref a0, .int x3, .int r8, .ref a1]) (rest := []) (wn := [(a0, .inr (7, [.ref a0_bytes, .int v0_size])), (a0_bytes, .inl (D.2 0, 400, .inl g0_bytes)), (a1, .inr (5, [.ref a1_rows, .int r9.2.1])), (a1_rows, .inl (D.2 2, n1_rows, .inr (.inl r9.2.2))), (a2, .inr (1, [.int v2_kind, .int v2_place]))]) ⟨hx, hb, hml, hown, hts⟩ (mX6_takeRow l D a0 a0_bytes a1 a1_rows H.size n1_rows v0_size g0_bytes v1_size g1_rows x3 r8 N r9 hr9) (va_cwS 4 hts gX6_readWords_X6_takeRow rfl rfl rfl (by decide +kernel) ⟨Nat.le_of_ble_eq_true rfl, Nat.le_of_ble_eq_true rfl⟩) hK hP hD hS hA [0, 1, 2, 3] [4] [1, 2, 3, 4, 0] rfl (by decide) rfl (by decide) (by decide) rfl (by decide) rfl hl.1 rfl (Nat.le_of_ble_eq_true rfl) dX6_readWords_39 ⟨Nat.zero_le _, Nat.zero_le _⟩ (fun H locs hP hD hS => ?_)
          refine lv_istore (lv' := [(5, .int r9.1), (4, .int r8), (0, .ref a0), (1, .ref a1), (2, .ref a2), (3, .int x3)]) hx hb dX6_readWords_42 hl (by decide) rfl (fun ls hl => ?_)
          refine lv_aload_n hx hb dX6_readWords_44 rfl (lv_at hl 4 rfl) ?_
          refine lv_iload hx hb dX6_readWords_45 (lv_at hl 0 rfl) ?_
          refine lv_iload hx hb dX6_readWords_47 (lv_at hl 0 rfl) ?_
          refine lv_iconst (v := 2) hx hb dX6_readWords_49 (by decide) ?_
          refine lv_icmp_ne (tgt := 60) hx hb dX6_readWords_50 (by decide) (fun c_10 => ?_) (fun c_10 => ?_)
          · replace hf := im c_10 hf
            refine lv_iload_n hx hb dX6_readWords_60 rfl (lv_at hl 5 rfl) ?_
            exact k61 _ ih r9.1 x3 x3 r8 r9.2.1 r9.2.2 v2_kind v2_place H locs ls hf hP hD hS (lv_sub hl [2, 3, 4, 5, 1] rfl)
          · replace hf := ip c_10 hf
            refine lv_iload_n hx hb dX6_readWords_53 rfl (lv_at hl 5 rfl) ?_
            refine lv_bipush (v := 7) hx hb dX6_readWords_54 (by decide) ?_
            refine lv_iadd hx hb dX6_readWords_56 ?_
            refine lv_goto (tgt := 61) hx hb dX6_readWords_57 (by decide) ?_
            exact k61 _ ih r9.1 (x3 + (7 : Int32)) x3 r8 r9.2.1 r9.2.2 v2_kind v2_place H locs ls hf hP hD hS (lv_sub hl [2, 3, 4, 5, 1] rfl)
  unfold fX6_readWords at hf
  refine lv_aload_n hx hb dX6_readWords_0 rfl (lv_at hl 1 rfl) ?_
  obtain ⟨r1, hr1, hf⟩ := bd hf
  refine zVv (As := []) (rest := []) (ci := 5) (q0 := 0) (wn := [(a0, .inr (7, [.ref a0_bytes, .int v0_size])), (a0_bytes, .inl (D.2 0, 400, .inl g0_bytes)), (a1, .inr (5, [.ref a1_rows, .int r1])), (a1_rows, .inl (D.2 2, n1_rows, .inr (.inl g1_rows))), (a2, .inr (1, [.int v2_kind, .int v2_place]))]) ⟨hx, hb, hml, hown, hts⟩ (mX7_clear l D a1 a1_rows H.size v1_size r1 hr1) (cwV 0 hts gX6_readWords_X7_clear rfl rfl rfl (by decide +kernel) ⟨Nat.le_of_ble_eq_true rfl, Nat.le_of_ble_eq_true rfl⟩) hK hP hD hS hA [2] [0, 1, 3, 4] [0, 1, 4, 2, 3] rfl (by decide) rfl (by decide) (by decide) rfl (by decide) rfl rfl rfl hl.1 rfl (Nat.le_of_ble_eq_true rfl) dX6_readWords_1 ⟨Nat.zero_le _, Nat.zero_le _⟩ (fun H locs hP hD hS => ?_)
  refine lv_aload_n hx hb dX6_readWords_4 rfl (lv_at hl 2 rfl) ?_
  refine lv_iconst (v := 0) hx hb dX6_readWords_5 (by decide) ?_
  refine lv_iconst (v := -1) hx hb dX6_readWords_6 (by decide) ?_
  obtain ⟨r2, hr2, hf⟩ := bd hf
  refine zVv (As := [.int (0 : Int32), .int (-1 : Int32)]) (rest := []) (ci := 1) (q0 := 0) (wn := [(a0, .inr (7, [.ref a0_bytes, .int v0_size])), (a0_bytes, .inl (D.2 0, 400, .inl g0_bytes)), (a1, .inr (5, [.ref a1_rows, .int r1])), (a1_rows, .inl (D.2 2, n1_rows, .inr (.inl g1_rows))), (a2, .inr (1, [.int r2.1, .int r2.2]))]) ⟨hx, hb, hml, hown, hts⟩ (mX2_set l D a2 H.size v2_kind v2_place (0 : Int32) (-1 : Int32) r2 hr2) (cwV 2 hts gX6_readWords_X2_set rfl rfl rfl (by decide +kernel) ⟨Nat.le_of_ble_eq_true rfl, Nat.le_of_ble_eq_true rfl⟩) hK hP hD hS hA [4] [0, 1, 2, 3] [0, 1, 2, 3, 4] rfl (by decide) rfl (by decide) (by decide) rfl (by decide) rfl rfl rfl hl.1 rfl (Nat.le_of_ble_eq_true rfl) dX6_readWords_7 ⟨Nat.zero_le _, Nat.zero_le _⟩ (fun H locs hP hD hS => ?_)
  refine lv_iconst (v := 0) hx hb dX6_readWords_10 (by decide) ?_
  refine lv_istore_n (lv' := [(3, .int (0 : Int32)), (0, .ref a0), (1, .ref a1), (2, .ref a2)]) hx hb dX6_readWords_11 rfl hl (by decide) rfl (fun ls hl => ?_)
  exact k12 N (0 : Int32) r1 g1_rows r2.1 r2.2 H locs ls hf hP hD hS (lv_sub hl [1, 2, 3, 0] rfl)
