def fX11_again_n0  : Option (Int32) :=
  some ((0 : Int32))
set_option maxHeartbeats 4000000 in
set_option maxRecDepth 100000 in
theorem mX11_again_n0 (l : Launch) (D : zG) (a0 : Nat) (a0_now : Nat) (a0_images : Nat) (a0_merges : Nat) (a0_cut : Nat) (a0_index : Nat) (a0_otherIndex : Nat) (a0_readWords : Nat) (a0_triedPattern : Nat) (a0_alike : Nat) (sz : Nat)  (o0_images_1 : Option Nat) (o0_images_2 : Option Nat)  (res : Int32) (hf : fX11_again_n0 = some res) : Met l yX11_again wsX11_again ({ frames := 0, cells := 0, slots := 0, locals := 0 } : Room) (va_Pc [.ref a0, .int (0 : Int32)] (zW D sz [(a0, .inr (8, [.ref a0_now, .ref a0_images, .ref a0_merges, .ref a0_cut, .ref a0_index, .ref a0_otherIndex, .ref a0_readWords, .ref a0_triedPattern, .ref a0_alike])), (a0_images, .inl (D.2 5, 3, .inr (.inr (.inr (.inr (zq3 none o0_images_1 o0_images_2))))))])) (va_Qi (fun r (_ : Unit) => r = res ∧ (r = 0 ∨ r = 1)) (fun _ => zB D (va_A [(a0, .inr (8, [.ref a0_now, .ref a0_images, .ref a0_merges, .ref a0_cut, .ref a0_index, .ref a0_otherIndex, .ref a0_readWords, .ref a0_triedPattern, .ref a0_alike])), (a0_images, .inl (D.2 5, 3, .inr (.inr (.inr (.inr (zq3 none o0_images_1 o0_images_2))))))] sz) [(a0, .inr (8, [.ref a0_now, .ref a0_images, .ref a0_merges, .ref a0_cut, .ref a0_index, .ref a0_otherIndex, .ref a0_readWords, .ref a0_triedPattern, .ref a0_alike])), (a0_images, .inl (D.2 5, 3, .inr (.inr (.inr (.inr (zq3 none o0_images_1 o0_images_2))))))]) (va_A [(a0, .inr (8, [.ref a0_now, .ref a0_images, .ref a0_merges, .ref a0_cut, .ref a0_index, .ref a0_otherIndex, .ref a0_readWords, .ref a0_triedPattern, .ref a0_alike])), (a0_images, .inl (D.2 5, 3, .inr (.inr (.inr (.inr (zq3 none o0_images_1 o0_images_2))))))] sz)) 0 0 (va_A [(a0, .inr (8, [.ref a0_now, .ref a0_images, .ref a0_merges, .ref a0_cut, .ref a0_index, .ref a0_otherIndex, .ref a0_readWords, .ref a0_triedPattern, .ref a0_alike])), (a0_images, .inl (D.2 5, 3, .inr (.inr (.inr (.inr (zq3 none o0_images_1 o0_images_2))))))] sz) := by
  refine Met.ofW (cc := cX11_again) (maxL := 2) (ret := (some .boolean)) (by decide) rfl ?_
  intro p e s m args below meth c s₁ B hml hv
  obtain ⟨rfl, hsz, hP, hK, hD0⟩ := hv
  have hx := B.exec
  have hb := B.bytes
  have hr := B.returns
  have hts := atoms_spec (ws := wsX11_again) B.pre
  have hown : s.vm.findClass RX11 = some m.cls := findClass_of_methodNamed B.named
  have hlocks := B.notSynchronized
  subst hsz
  have hD := hD0.self (sz := s.heap.size)
  generalize hAe : va_A [(a0, .inr (8, [.ref a0_now, .ref a0_images, .ref a0_merges, .ref a0_cut, .ref a0_index, .ref a0_otherIndex, .ref a0_readWords, .ref a0_triedPattern, .ref a0_alike])), (a0_images, .inl (D.2 5, 3, .inr (.inr (.inr (.inr (zq3 none o0_images_1 o0_images_2))))))] s.heap.size = A at hD ⊢
  have hA : ∀ q : Nat, s.heap.size ≤ q → A q := fun q h => by rw [← hAe]; exact Or.inr h
  have l16 := zat hts 1 (w := .fieldLink RX11 16 "TurnedWords" "images" "[LTurnedWords$State;") rfl
  have hwX11 : ∀ w ∈ u_ws RX11 TX11 9, w ∈ wsX11_again := fun w h => List.mem_cons_of_mem _ (List.mem_append_left _ (List.mem_append_left _ (List.mem_append_left _ (List.mem_append_left _ (List.mem_append_left _ (List.mem_append_left _ (List.mem_append_left _ (List.mem_append_left _ (List.mem_append_right _ h)))))))))
  have hl := lv_entry ([.ref a0, .int (0 : Int32)]) (n := 2) (Nat.le_of_ble_eq_true rfl)
  rw [lg_entry_eq]
  generalize (lg_sl ([.ref a0, .int (0 : Int32)]) ++ List.replicate (2 - (lg_sl ([.ref a0, .int (0 : Int32)])).length) Slot.unset).toArray = ls at hl ⊢
  have hl : lv_has ls 2 [(0, .ref a0), (1, .int (0 : Int32))] := hl
  refine zStart (A := A) hP (fun Q0 H locs hQ hP hS => ?_)
  unfold fX11_again_n0 at hf
  refine lv_iload_n hx hb dX11_again_0 rfl (lv_at hl 1 rfl) ?_
  refine lv_if_lt (tgt := 18) hx hb dX11_again_1 (by decide) (fun c_1 => absurd c_1 (by decide)) (fun _ => ?_)
  refine lv_iload_n hx hb dX11_again_4 rfl (lv_at hl 1 rfl) ?_
  refine lv_iconst (v := 3) hx hb dX11_again_5 (by decide) ?_
  refine lv_icmp_ge (tgt := 18) hx hb dX11_again_6 (by decide) (fun c_2 => absurd c_2 (by decide)) (fun _ => ?_)
  refine lv_aload_n hx hb dX11_again_9 rfl (lv_at hl 0 rfl) ?_
  refine va_get (D := D.1) (ci := 8) (v := .ref a0_images) (C := RX11) (T := TX11) (N := 9) hx hb hts hwX11 hown hK.1 hP 0 rfl rfl 1 (by decide) l16 (fun _ h9 => h9) rfl dX11_again_10 ?_
  refine lv_iload_n hx hb dX11_again_13 rfl (lv_at hl 1 rfl) ?_
  refine va_aldq hx hb hK.1 hP 1 5 rfl rfl (show ¬ ((0 : Int32) < 0 ∨ 3 ≤ ((0 : Int32)).toNatClampNeg) by decide) dX11_again_14 ?_
  refine W.eq (g2 := F0 m 15 ls [.null]) rfl ?_
  refine lv_ifnonnullN hx hb dX11_again_15 ?_
  refine lv_iconst (v := 0) hx hb dX11_again_18 (by decide) ?_
  have he := Option.some.inj hf
  rw [hQ]
  exact W.zret (v := (0 : Int32)) hx hb hr (znb (Or.inl rfl)) (fun t ht hW => by rw [← he]; exact ⟨⟨(0 : Int32), (), rfl, ⟨rfl, Or.inl rfl⟩, by rw [ht]; exact hP, hD⟩, hS.F ht⟩) hS.2.2 dX11_again_19
def fX11_again_n1  : Option (Int32) :=
  some ((0 : Int32))
set_option maxHeartbeats 4000000 in
set_option maxRecDepth 100000 in
theorem mX11_again_n1 (l : Launch) (D : zG) (a0 : Nat) (a0_now : Nat) (a0_images : Nat) (a0_merges : Nat) (a0_cut : Nat) (a0_index : Nat) (a0_otherIndex : Nat) (a0_readWords : Nat) (a0_triedPattern : Nat) (a0_alike : Nat) (sz : Nat)  (o0_images_0 : Option Nat) (o0_images_2 : Option Nat)  (res : Int32) (hf : fX11_again_n1 = some res) : Met l yX11_again wsX11_again ({ frames := 0, cells := 0, slots := 0, locals := 0 } : Room) (va_Pc [.ref a0, .int (1 : Int32)] (zW D sz [(a0, .inr (8, [.ref a0_now, .ref a0_images, .ref a0_merges, .ref a0_cut, .ref a0_index, .ref a0_otherIndex, .ref a0_readWords, .ref a0_triedPattern, .ref a0_alike])), (a0_images, .inl (D.2 5, 3, .inr (.inr (.inr (.inr (zq3 o0_images_0 none o0_images_2))))))])) (va_Qi (fun r (_ : Unit) => r = res ∧ (r = 0 ∨ r = 1)) (fun _ => zB D (va_A [(a0, .inr (8, [.ref a0_now, .ref a0_images, .ref a0_merges, .ref a0_cut, .ref a0_index, .ref a0_otherIndex, .ref a0_readWords, .ref a0_triedPattern, .ref a0_alike])), (a0_images, .inl (D.2 5, 3, .inr (.inr (.inr (.inr (zq3 o0_images_0 none o0_images_2))))))] sz) [(a0, .inr (8, [.ref a0_now, .ref a0_images, .ref a0_merges, .ref a0_cut, .ref a0_index, .ref a0_otherIndex, .ref a0_readWords, .ref a0_triedPattern, .ref a0_alike])), (a0_images, .inl (D.2 5, 3, .inr (.inr (.inr (.inr (zq3 o0_images_0 none o0_images_2))))))]) (va_A [(a0, .inr (8, [.ref a0_now, .ref a0_images, .ref a0_merges, .ref a0_cut, .ref a0_index, .ref a0_otherIndex, .ref a0_readWords, .ref a0_triedPattern, .ref a0_alike])), (a0_images, .inl (D.2 5, 3, .inr (.inr (.inr (.inr (zq3 o0_images_0 none o0_images_2))))))] sz)) 0 0 (va_A [(a0, .inr (8, [.ref a0_now, .ref a0_images, .ref a0_merges, .ref a0_cut, .ref a0_index, .ref a0_otherIndex, .ref a0_readWords, .ref a0_triedPattern, .ref a0_alike])), (a0_images, .inl (D.2 5, 3, .inr (.inr (.inr (.inr (zq3 o0_images_0 none o0_images_2))))))] sz) := by
  refine Met.ofW (cc := cX11_again) (maxL := 2) (ret := (some .boolean)) (by decide) rfl ?_
  intro p e s m args below meth c s₁ B hml hv
  obtain ⟨rfl, hsz, hP, hK, hD0⟩ := hv
  have hx := B.exec
  have hb := B.bytes
  have hr := B.returns
  have hts := atoms_spec (ws := wsX11_again) B.pre
  have hown : s.vm.findClass RX11 = some m.cls := findClass_of_methodNamed B.named
  have hlocks := B.notSynchronized
  subst hsz
  have hD := hD0.self (sz := s.heap.size)
  generalize hAe : va_A [(a0, .inr (8, [.ref a0_now, .ref a0_images, .ref a0_merges, .ref a0_cut, .ref a0_index, .ref a0_otherIndex, .ref a0_readWords, .ref a0_triedPattern, .ref a0_alike])), (a0_images, .inl (D.2 5, 3, .inr (.inr (.inr (.inr (zq3 o0_images_0 none o0_images_2))))))] s.heap.size = A at hD ⊢
  have hA : ∀ q : Nat, s.heap.size ≤ q → A q := fun q h => by rw [← hAe]; exact Or.inr h
  have l16 := zat hts 1 (w := .fieldLink RX11 16 "TurnedWords" "images" "[LTurnedWords$State;") rfl
  have hwX11 : ∀ w ∈ u_ws RX11 TX11 9, w ∈ wsX11_again := fun w h => List.mem_cons_of_mem _ (List.mem_append_left _ (List.mem_append_left _ (List.mem_append_left _ (List.mem_append_left _ (List.mem_append_left _ (List.mem_append_left _ (List.mem_append_left _ (List.mem_append_left _ (List.mem_append_right _ h)))))))))
  have hl := lv_entry ([.ref a0, .int (1 : Int32)]) (n := 2) (Nat.le_of_ble_eq_true rfl)
  rw [lg_entry_eq]
  generalize (lg_sl ([.ref a0, .int (1 : Int32)]) ++ List.replicate (2 - (lg_sl ([.ref a0, .int (1 : Int32)])).length) Slot.unset).toArray = ls at hl ⊢
  have hl : lv_has ls 2 [(0, .ref a0), (1, .int (1 : Int32))] := hl
  refine zStart (A := A) hP (fun Q0 H locs hQ hP hS => ?_)
  unfold fX11_again_n1 at hf
  refine lv_iload_n hx hb dX11_again_0 rfl (lv_at hl 1 rfl) ?_
  refine lv_if_lt (tgt := 18) hx hb dX11_again_1 (by decide) (fun c_1 => absurd c_1 (by decide)) (fun _ => ?_)
  refine lv_iload_n hx hb dX11_again_4 rfl (lv_at hl 1 rfl) ?_
  refine lv_iconst (v := 3) hx hb dX11_again_5 (by decide) ?_
  refine lv_icmp_ge (tgt := 18) hx hb dX11_again_6 (by decide) (fun c_2 => absurd c_2 (by decide)) (fun _ => ?_)
  refine lv_aload_n hx hb dX11_again_9 rfl (lv_at hl 0 rfl) ?_
  refine va_get (D := D.1) (ci := 8) (v := .ref a0_images) (C := RX11) (T := TX11) (N := 9) hx hb hts hwX11 hown hK.1 hP 0 rfl rfl 1 (by decide) l16 (fun _ h9 => h9) rfl dX11_again_10 ?_
  refine lv_iload_n hx hb dX11_again_13 rfl (lv_at hl 1 rfl) ?_
  refine va_aldq hx hb hK.1 hP 1 5 rfl rfl (show ¬ ((1 : Int32) < 0 ∨ 3 ≤ ((1 : Int32)).toNatClampNeg) by decide) dX11_again_14 ?_
  refine W.eq (g2 := F0 m 15 ls [.null]) rfl ?_
  refine lv_ifnonnullN hx hb dX11_again_15 ?_
  refine lv_iconst (v := 0) hx hb dX11_again_18 (by decide) ?_
  have he := Option.some.inj hf
  rw [hQ]
  exact W.zret (v := (0 : Int32)) hx hb hr (znb (Or.inl rfl)) (fun t ht hW => by rw [← he]; exact ⟨⟨(0 : Int32), (), rfl, ⟨rfl, Or.inl rfl⟩, by rw [ht]; exact hP, hD⟩, hS.F ht⟩) hS.2.2 dX11_again_19
def fX11_again_n2  : Option (Int32) :=
  some ((0 : Int32))
set_option maxHeartbeats 4000000 in
set_option maxRecDepth 100000 in
theorem mX11_again_n2 (l : Launch) (D : zG) (a0 : Nat) (a0_now : Nat) (a0_images : Nat) (a0_merges : Nat) (a0_cut : Nat) (a0_index : Nat) (a0_otherIndex : Nat) (a0_readWords : Nat) (a0_triedPattern : Nat) (a0_alike : Nat) (sz : Nat)  (o0_images_0 : Option Nat) (o0_images_1 : Option Nat)  (res : Int32) (hf : fX11_again_n2 = some res) : Met l yX11_again wsX11_again ({ frames := 0, cells := 0, slots := 0, locals := 0 } : Room) (va_Pc [.ref a0, .int (2 : Int32)] (zW D sz [(a0, .inr (8, [.ref a0_now, .ref a0_images, .ref a0_merges, .ref a0_cut, .ref a0_index, .ref a0_otherIndex, .ref a0_readWords, .ref a0_triedPattern, .ref a0_alike])), (a0_images, .inl (D.2 5, 3, .inr (.inr (.inr (.inr (zq3 o0_images_0 o0_images_1 none))))))])) (va_Qi (fun r (_ : Unit) => r = res ∧ (r = 0 ∨ r = 1)) (fun _ => zB D (va_A [(a0, .inr (8, [.ref a0_now, .ref a0_images, .ref a0_merges, .ref a0_cut, .ref a0_index, .ref a0_otherIndex, .ref a0_readWords, .ref a0_triedPattern, .ref a0_alike])), (a0_images, .inl (D.2 5, 3, .inr (.inr (.inr (.inr (zq3 o0_images_0 o0_images_1 none))))))] sz) [(a0, .inr (8, [.ref a0_now, .ref a0_images, .ref a0_merges, .ref a0_cut, .ref a0_index, .ref a0_otherIndex, .ref a0_readWords, .ref a0_triedPattern, .ref a0_alike])), (a0_images, .inl (D.2 5, 3, .inr (.inr (.inr (.inr (zq3 o0_images_0 o0_images_1 none))))))]) (va_A [(a0, .inr (8, [.ref a0_now, .ref a0_images, .ref a0_merges, .ref a0_cut, .ref a0_index, .ref a0_otherIndex, .ref a0_readWords, .ref a0_triedPattern, .ref a0_alike])), (a0_images, .inl (D.2 5, 3, .inr (.inr (.inr (.inr (zq3 o0_images_0 o0_images_1 none))))))] sz)) 0 0 (va_A [(a0, .inr (8, [.ref a0_now, .ref a0_images, .ref a0_merges, .ref a0_cut, .ref a0_index, .ref a0_otherIndex, .ref a0_readWords, .ref a0_triedPattern, .ref a0_alike])), (a0_images, .inl (D.2 5, 3, .inr (.inr (.inr (.inr (zq3 o0_images_0 o0_images_1 none))))))] sz) := by
  refine Met.ofW (cc := cX11_again) (maxL := 2) (ret := (some .boolean)) (by decide) rfl ?_
  intro p e s m args below meth c s₁ B hml hv
  obtain ⟨rfl, hsz, hP, hK, hD0⟩ := hv
  have hx := B.exec
  have hb := B.bytes
  have hr := B.returns
  have hts := atoms_spec (ws := wsX11_again) B.pre
  have hown : s.vm.findClass RX11 = some m.cls := findClass_of_methodNamed B.named
  have hlocks := B.notSynchronized
  subst hsz
  have hD := hD0.self (sz := s.heap.size)
  generalize hAe : va_A [(a0, .inr (8, [.ref a0_now, .ref a0_images, .ref a0_merges, .ref a0_cut, .ref a0_index, .ref a0_otherIndex, .ref a0_readWords, .ref a0_triedPattern, .ref a0_alike])), (a0_images, .inl (D.2 5, 3, .inr (.inr (.inr (.inr (zq3 o0_images_0 o0_images_1 none))))))] s.heap.size = A at hD ⊢
  have hA : ∀ q : Nat, s.heap.size ≤ q → A q := fun q h => by rw [← hAe]; exact Or.inr h
  have l16 := zat hts 1 (w := .fieldLink RX11 16 "TurnedWords" "images" "[LTurnedWords$State;") rfl
  have hwX11 : ∀ w ∈ u_ws RX11 TX11 9, w ∈ wsX11_again := fun w h => List.mem_cons_of_mem _ (List.mem_append_left _ (List.mem_append_left _ (List.mem_append_left _ (List.mem_append_left _ (List.mem_append_left _ (List.mem_append_left _ (List.mem_append_left _ (List.mem_append_left _ (List.mem_append_right _ h)))))))))
  have hl := lv_entry ([.ref a0, .int (2 : Int32)]) (n := 2) (Nat.le_of_ble_eq_true rfl)
  rw [lg_entry_eq]
  generalize (lg_sl ([.ref a0, .int (2 : Int32)]) ++ List.replicate (2 - (lg_sl ([.ref a0, .int (2 : Int32)])).length) Slot.unset).toArray = ls at hl ⊢
  have hl : lv_has ls 2 [(0, .ref a0), (1, .int (2 : Int32))] := hl
  refine zStart (A := A) hP (fun Q0 H locs hQ hP hS => ?_)
  unfold fX11_again_n2 at hf
  refine lv_iload_n hx hb dX11_again_0 rfl (lv_at hl 1 rfl) ?_
  refine lv_if_lt (tgt := 18) hx hb dX11_again_1 (by decide) (fun c_1 => absurd c_1 (by decide)) (fun _ => ?_)
  refine lv_iload_n hx hb dX11_again_4 rfl (lv_at hl 1 rfl) ?_
  refine lv_iconst (v := 3) hx hb dX11_again_5 (by decide) ?_
  refine lv_icmp_ge (tgt := 18) hx hb dX11_again_6 (by decide) (fun c_2 => absurd c_2 (by decide)) (fun _ => ?_)
  refine lv_aload_n hx hb dX11_again_9 rfl (lv_at hl 0 rfl) ?_
  refine va_get (D := D.1) (ci := 8) (v := .ref a0_images) (C := RX11) (T := TX11) (N := 9) hx hb hts hwX11 hown hK.1 hP 0 rfl rfl 1 (by decide) l16 (fun _ h9 => h9) rfl dX11_again_10 ?_
  refine lv_iload_n hx hb dX11_again_13 rfl (lv_at hl 1 rfl) ?_
  refine va_aldq hx hb hK.1 hP 1 5 rfl rfl (show ¬ ((2 : Int32) < 0 ∨ 3 ≤ ((2 : Int32)).toNatClampNeg) by decide) dX11_again_14 ?_
  refine W.eq (g2 := F0 m 15 ls [.null]) rfl ?_
  refine lv_ifnonnullN hx hb dX11_again_15 ?_
  refine lv_iconst (v := 0) hx hb dX11_again_18 (by decide) ?_
  have he := Option.some.inj hf
  rw [hQ]
  exact W.zret (v := (0 : Int32)) hx hb hr (znb (Or.inl rfl)) (fun t ht hW => by rw [← he]; exact ⟨⟨(0 : Int32), (), rfl, ⟨rfl, Or.inl rfl⟩, by rw [ht]; exact hP, hD⟩, hS.F ht⟩) hS.2.2 dX11_again_19
def fX12_init  : Option (Int32 × Int32 × Int32 × Int32 × Int32 × Int32 × Int32 × Int32 × (Nat → Int32) × (Nat → Int32) × (Nat → Int32) × (Nat → Int32) × (Nat → Int32) × (Nat → Int32) × (Nat → Int32) × (Nat → Int32) × (Nat → Int32) × (Nat → Int32) × (Nat → Int32) × (Nat → Int32)) :=
  if (430 : Int32) < 0 ∨ 5228 ≤ ((430 : Int32)).toNatClampNeg then none else
  if (431 : Int32) < 0 ∨ 5228 ≤ ((431 : Int32)).toNatClampNeg then none else
  some ((0 : Int32), (0 : Int32), (-1 : Int32), (0 : Int32), (0 : Int32), (0 : Int32), (0 : Int32), (0 : Int32), (upd (upd (fun _ => (0 : Int32)) ((430 : Int32)).toNatClampNeg (1 : Int32)) ((431 : Int32)).toNatClampNeg (42 : Int32)), (fun _ => (0 : Int32)), (fun _ => (0 : Int32)), (fun _ => (0 : Int32)), (fun _ => (0 : Int32)), (fun _ => (0 : Int32)), (fun _ => (0 : Int32)), (fun _ => (0 : Int32)), (fun _ => (0 : Int32)), (fun _ => (0 : Int32)), (fun _ => (0 : Int32)), (fun _ => (0 : Int32)))
set_option maxHeartbeats 4000000 in
set_option maxRecDepth 100000 in
theorem mX12_init (l : Launch) (D : zG) (a0 : Nat) (sz : Nat)    (res : Int32 × Int32 × Int32 × Int32 × Int32 × Int32 × Int32 × Int32 × (Nat → Int32) × (Nat → Int32) × (Nat → Int32) × (Nat → Int32) × (Nat → Int32) × (Nat → Int32) × (Nat → Int32) × (Nat → Int32) × (Nat → Int32) × (Nat → Int32) × (Nat → Int32) × (Nat → Int32)) (hf : fX12_init = some res) : Met l yX12_init wsX12_init ({ frames := 1, cells := 12, slots := 6893, locals := 12 } : Room) (va_Pc [.ref a0] (zW D sz [(a0, .inr (9, [.null, .null, .null, .int (0 : Int32), .int (0 : Int32), .int (0 : Int32), .int (0 : Int32), .null, .null, .int (0 : Int32), .null, .null, .int (0 : Int32), .int (0 : Int32), .null, .null, .null, .int (0 : Int32), .null, .null]))])) (va_Qv (fun (_ : Nat × Nat × Nat × Nat × Nat × Nat × Nat × Nat × Nat × Nat × Nat × Nat) => True) (fun u => zB D (va_A [(a0, .inr (9, [.null, .null, .null, .int (0 : Int32), .int (0 : Int32), .int (0 : Int32), .int (0 : Int32), .null, .null, .int (0 : Int32), .null, .null, .int (0 : Int32), .int (0 : Int32), .null, .null, .null, .int (0 : Int32), .null, .null]))] sz) [(a0, .inr (9, [.ref u.1, .ref u.2.1, .ref u.2.2.1, .int res.1, .int res.2.1, .int res.2.2.1, .int res.2.2.2.1, .ref u.2.2.2.1, .ref u.2.2.2.2.1, .int res.2.2.2.2.1, .ref u.2.2.2.2.2.1, .ref u.2.2.2.2.2.2.1, .int res.2.2.2.2.2.1, .int res.2.2.2.2.2.2.1, .ref u.2.2.2.2.2.2.2.1, .ref u.2.2.2.2.2.2.2.2.1, .ref u.2.2.2.2.2.2.2.2.2.1, .int res.2.2.2.2.2.2.2.1, .ref u.2.2.2.2.2.2.2.2.2.2.1, .ref u.2.2.2.2.2.2.2.2.2.2.2])), (u.1, .inl (D.2 1, 5228, .inl res.2.2.2.2.2.2.2.2.1)), (u.2.1, .inl (D.2 1, 400, .inl res.2.2.2.2.2.2.2.2.2.1)), (u.2.2.1, .inl (D.2 3, 3, .inl res.2.2.2.2.2.2.2.2.2.2.1)), (u.2.2.2.1, .inl (D.2 1, 320, .inl res.2.2.2.2.2.2.2.2.2.2.2.1)), (u.2.2.2.2.1, .inl (D.2 1, 320, .inl res.2.2.2.2.2.2.2.2.2.2.2.2.1)), (u.2.2.2.2.2.1, .inl (D.2 1, 40, .inl res.2.2.2.2.2.2.2.2.2.2.2.2.2.1)), (u.2.2.2.2.2.2.1, .inl (D.2 1, 14, .inl res.2.2.2.2.2.2.2.2.2.2.2.2.2.2.1)), (u.2.2.2.2.2.2.2.1, .inl (D.2 1, 40, .inl res.2.2.2.2.2.2.2.2.2.2.2.2.2.2.2.1)), (u.2.2.2.2.2.2.2.2.1, .inl (D.2 1, 40, .inl res.2.2.2.2.2.2.2.2.2.2.2.2.2.2.2.2.1)), (u.2.2.2.2.2.2.2.2.2.1, .inl (D.2 1, 40, .inl res.2.2.2.2.2.2.2.2.2.2.2.2.2.2.2.2.2.1)), (u.2.2.2.2.2.2.2.2.2.2.1, .inl (D.2 1, 128, .inl res.2.2.2.2.2.2.2.2.2.2.2.2.2.2.2.2.2.2.1)), (u.2.2.2.2.2.2.2.2.2.2.2, .inl (D.2 1, 320, .inl res.2.2.2.2.2.2.2.2.2.2.2.2.2.2.2.2.2.2.2))]) (va_A [(a0, .inr (9, [.null, .null, .null, .int (0 : Int32), .int (0 : Int32), .int (0 : Int32), .int (0 : Int32), .null, .null, .int (0 : Int32), .null, .null, .int (0 : Int32), .int (0 : Int32), .null, .null, .null, .int (0 : Int32), .null, .null]))] sz)) 12 6893 (va_A [(a0, .inr (9, [.null, .null, .null, .int (0 : Int32), .int (0 : Int32), .int (0 : Int32), .int (0 : Int32), .null, .null, .int (0 : Int32), .null, .null, .int (0 : Int32), .int (0 : Int32), .null, .null, .null, .int (0 : Int32), .null, .null]))] sz) := by
  refine Met.ofW (cc := cX12_init) (maxL := 1) (ret := none) (by decide) rfl ?_
  intro p e s m args below meth c s₁ B hml hv
  obtain ⟨rfl, hsz, hP, hK, hD0⟩ := hv
  have hx := B.exec
  have hb := B.bytes
  have hr := B.returns
  have hts := atoms_spec (ws := wsX12_init) B.pre
  have hown : s.vm.findClass RX12 = some m.cls := findClass_of_methodNamed B.named
  have hlocks := B.notSynchronized
  have hin : meth.name = "<init>" := (name_of_methodNamed B.named B.method).1
  subst hsz
  have hD := hD0.self (sz := s.heap.size)
  generalize hAe : va_A [(a0, .inr (9, [.null, .null, .null, .int (0 : Int32), .int (0 : Int32), .int (0 : Int32), .int (0 : Int32), .null, .null, .int (0 : Int32), .null, .null, .int (0 : Int32), .int (0 : Int32), .null, .null, .null, .int (0 : Int32), .null, .null]))] s.heap.size = A at hD ⊢
  have hA : ∀ q : Nat, s.heap.size ≤ q → A q := fun q h => by rw [← hAe]; exact Or.inr h
  have l1 := zat hts 1 (w := .methodLink RX12 1 objectInit) rfl
  have hobji := zat hts 2 (w := .instanceMethod objectInit) rfl
  have hobjc := zat hts 3 (w := .code objectInit ⟨#[0xb1]⟩ 1 none) rfl
  have harrI := zat hts 4 (w := .arrayClass .int) rfl
  have l7 := zat hts 5 (w := .fieldLink RX12 7 "TurnedWordsModel" "all" "[I") rfl
  have l13 := zat hts 6 (w := .fieldLink RX12 13 "TurnedWordsModel" "tape" "[I") rfl
  have harrZ := zat hts 7 (w := .arrayClass .boolean) rfl
  have l16 := zat hts 8 (w := .fieldLink RX12 16 "TurnedWordsModel" "isImage" "[Z") rfl
  have l20 := zat hts 9 (w := .fieldLink RX12 20 "TurnedWordsModel" "faultPlace" "I") rfl
  have l24 := zat hts 10 (w := .fieldLink RX12 24 "TurnedWordsModel" "turnWord" "[I") rfl
  have l27 := zat hts 11 (w := .fieldLink RX12 27 "TurnedWordsModel" "turnFrom" "[I") rfl
  have l30 := zat hts 12 (w := .fieldLink RX12 30 "TurnedWordsModel" "pieceSign" "[I") rfl
  have l33 := zat hts 13 (w := .fieldLink RX12 33 "TurnedWordsModel" "pieceFrom" "[I") rfl
  have l36 := zat hts 14 (w := .fieldLink RX12 36 "TurnedWordsModel" "runFrom" "[I") rfl
  have l39 := zat hts 15 (w := .fieldLink RX12 39 "TurnedWordsModel" "runLong" "[I") rfl
  have l42 := zat hts 16 (w := .fieldLink RX12 42 "TurnedWordsModel" "runPiece" "[I") rfl
  have l45 := zat hts 17 (w := .fieldLink RX12 45 "TurnedWordsModel" "alike" "[I") rfl
  have l48 := zat hts 18 (w := .fieldLink RX12 48 "TurnedWordsModel" "stood" "[I") rfl
  have hwX12 : ∀ w ∈ u_ws RX12 TX12 20, w ∈ wsX12_init := fun w h => List.mem_cons_of_mem _ (List.mem_append_right _ h)
  have hl := lv_entry ([.ref a0]) (n := 1) (Nat.le_of_ble_eq_true rfl)
  rw [lg_entry_eq]
  generalize (lg_sl ([.ref a0]) ++ List.replicate (1 - (lg_sl ([.ref a0])).length) Slot.unset).toArray = ls at hl ⊢
  have hl : lv_has ls 1 [(0, .ref a0)] := hl
  refine zStart (A := A) hP (fun Q0 H locs hQ hP hS => ?_)
  unfold fX12_init at hf
  refine lv_aload_n hx hb dX12_init_0 rfl (lv_at hl 0 rfl) ?_
  refine W.objInit hx hb hown l1 hobji hobjc rfl (by rw [hml]; exact hl.1) rfl dX12_init_1 (Nat.le_of_ble_eq_true rfl) (Nat.le_of_ble_eq_true rfl) ?_
  refine W.eq (g2 := F0 m 4 ls []) rfl ?_
  refine lv_aload_n hx hb dX12_init_4 rfl (lv_at hl 0 rfl) ?_
  refine lv_sipush (v := 5228) hx hb dX12_init_5 (by decide) ?_
  refine va_newa (atype := .int) (n := (5228 : Int32)) (a0 := (5228, .inl (fun _ => (0 : Int32)))) hx hb harrI rfl hK.1 hP hD hS hA (fun _ => rfl) (by decide) (by decide) (Nat.le_of_ble_eq_true rfl) (Nat.le_of_ble_eq_true rfl) (Nat.le_of_ble_eq_true rfl) dX12_init_8 (fun q1 cA2 H hK9 hP hD hS => ?_)
  obtain rfl := zsame hK9 1 rfl (fun _ h => h)
  have hP : va_P D.1 vwCl [(a0, .inr (9, [.null, .null, .null, .int (0 : Int32), .int (0 : Int32), .int (0 : Int32), .int (0 : Int32), .null, .null, .int (0 : Int32), .null, .null, .int (0 : Int32), .int (0 : Int32), .null, .null, .null, .int (0 : Int32), .null, .null])), (q1, .inl (D.2 1, 5228, .inl (fun _ => (0 : Int32))))] H := hP
  have hD : va_D A [(a0, .inr (9, [.null, .null, .null, .int (0 : Int32), .int (0 : Int32), .int (0 : Int32), .int (0 : Int32), .null, .null, .int (0 : Int32), .null, .null, .int (0 : Int32), .int (0 : Int32), .null, .null, .null, .int (0 : Int32), .null, .null])), (q1, .inl (D.2 1, 5228, .inl (fun _ => (0 : Int32))))] := hD
  refine W.widen (k := 1) (n := 5228) (Nat.le_of_ble_eq_true rfl) (Nat.le_of_ble_eq_true rfl) ?_
  refine va_putF (D := D.1) (ci := 9) (v := .ref q1) (ty := (.array .int)) (C := RX12) (T := TX12) (N := 20) hx hb hts hwX12 tyX12 tyX12_ok nmX12 hown hK.1 hP hD hS 0 rfl rfl 0 (by decide) l7 (fun _ h9 => h9) rfl hin rfl (by decide +kernel) rfl rfl (Nat.le_of_ble_eq_true rfl) dX12_init_10 (fun H locs hP hD hS => ?_)
  have hP : va_P D.1 vwCl [(a0, .inr (9, [.ref q1, .null, .null, .int (0 : Int32), .int (0 : Int32), .int (0 : Int32), .int (0 : Int32), .null, .null, .int (0 : Int32), .null, .null, .int (0 : Int32), .int (0 : Int32), .null, .null, .null, .int (0 : Int32), .null, .null])), (q1, .inl (D.2 1, 5228, .inl (fun _ => (0 : Int32))))] H := hP
  have hD : va_D A [(a0, .inr (9, [.ref q1, .null, .null, .int (0 : Int32), .int (0 : Int32), .int (0 : Int32), .int (0 : Int32), .null, .null, .int (0 : Int32), .null, .null, .int (0 : Int32), .int (0 : Int32), .null, .null, .null, .int (0 : Int32), .null, .null])), (q1, .inl (D.2 1, 5228, .inl (fun _ => (0 : Int32))))] := hD
  refine lv_aload_n hx hb dX12_init_13 rfl (lv_at hl 0 rfl) ?_
  refine lv_sipush (v := 400) hx hb dX12_init_14 (by decide) ?_
  refine va_newa (atype := .int) (n := (400 : Int32)) (a0 := (400, .inl (fun _ => (0 : Int32)))) hx hb harrI rfl hK.1 hP hD hS hA (fun _ => rfl) (by decide) (by decide) (Nat.le_of_ble_eq_true rfl) (Nat.le_of_ble_eq_true rfl) (Nat.le_of_ble_eq_true rfl) dX12_init_17 (fun q3 cA4 H hK9 hP hD hS => ?_)
  obtain rfl := zsame hK9 1 rfl (fun _ h => h)
  have hP : va_P D.1 vwCl [(a0, .inr (9, [.ref q1, .null, .null, .int (0 : Int32), .int (0 : Int32), .int (0 : Int32), .int (0 : Int32), .null, .null, .int (0 : Int32), .null, .null, .int (0 : Int32), .int (0 : Int32), .null, .null, .null, .int (0 : Int32), .null, .null])), (q1, .inl (D.2 1, 5228, .inl (fun _ => (0 : Int32)))), (q3, .inl (D.2 1, 400, .inl (fun _ => (0 : Int32))))] H := hP
  have hD : va_D A [(a0, .inr (9, [.ref q1, .null, .null, .int (0 : Int32), .int (0 : Int32), .int (0 : Int32), .int (0 : Int32), .null, .null, .int (0 : Int32), .null, .null, .int (0 : Int32), .int (0 : Int32), .null, .null, .null, .int (0 : Int32), .null, .null])), (q1, .inl (D.2 1, 5228, .inl (fun _ => (0 : Int32)))), (q3, .inl (D.2 1, 400, .inl (fun _ => (0 : Int32))))] := hD
  refine W.widen (k := 2) (n := 5628) (Nat.le_of_ble_eq_true rfl) (Nat.le_of_ble_eq_true rfl) ?_
  refine va_putF (D := D.1) (ci := 9) (v := .ref q3) (ty := (.array .int)) (C := RX12) (T := TX12) (N := 20) hx hb hts hwX12 tyX12 tyX12_ok nmX12 hown hK.1 hP hD hS 0 rfl rfl 1 (by decide) l13 (fun _ h9 => h9) rfl hin rfl (by decide +kernel) rfl rfl (Nat.le_of_ble_eq_true rfl) dX12_init_19 (fun H locs hP hD hS => ?_)
  have hP : va_P D.1 vwCl [(a0, .inr (9, [.ref q1, .ref q3, .null, .int (0 : Int32), .int (0 : Int32), .int (0 : Int32), .int (0 : Int32), .null, .null, .int (0 : Int32), .null, .null, .int (0 : Int32), .int (0 : Int32), .null, .null, .null, .int (0 : Int32), .null, .null])), (q1, .inl (D.2 1, 5228, .inl (fun _ => (0 : Int32)))), (q3, .inl (D.2 1, 400, .inl (fun _ => (0 : Int32))))] H := hP
  have hD : va_D A [(a0, .inr (9, [.ref q1, .ref q3, .null, .int (0 : Int32), .int (0 : Int32), .int (0 : Int32), .int (0 : Int32), .null, .null, .int (0 : Int32), .null, .null, .int (0 : Int32), .int (0 : Int32), .null, .null, .null, .int (0 : Int32), .null, .null])), (q1, .inl (D.2 1, 5228, .inl (fun _ => (0 : Int32)))), (q3, .inl (D.2 1, 400, .inl (fun _ => (0 : Int32))))] := hD
  refine lv_aload_n hx hb dX12_init_22 rfl (lv_at hl 0 rfl) ?_
  refine lv_iconst (v := 3) hx hb dX12_init_23 (by decide) ?_
  refine va_newa (atype := .boolean) (n := (3 : Int32)) (a0 := (3, .inl (fun _ => (0 : Int32)))) hx hb harrZ rfl hK.1 hP hD hS hA (fun _ => rfl) (by decide) (by decide) (Nat.le_of_ble_eq_true rfl) (Nat.le_of_ble_eq_true rfl) (Nat.le_of_ble_eq_true rfl) dX12_init_24 (fun q5 cA6 H hK9 hP hD hS => ?_)
  obtain rfl := zsame hK9 3 rfl (fun _ h => h)
  have hP : va_P D.1 vwCl [(a0, .inr (9, [.ref q1, .ref q3, .null, .int (0 : Int32), .int (0 : Int32), .int (0 : Int32), .int (0 : Int32), .null, .null, .int (0 : Int32), .null, .null, .int (0 : Int32), .int (0 : Int32), .null, .null, .null, .int (0 : Int32), .null, .null])), (q1, .inl (D.2 1, 5228, .inl (fun _ => (0 : Int32)))), (q3, .inl (D.2 1, 400, .inl (fun _ => (0 : Int32)))), (q5, .inl (D.2 3, 3, .inl (fun _ => (0 : Int32))))] H := hP
  have hD : va_D A [(a0, .inr (9, [.ref q1, .ref q3, .null, .int (0 : Int32), .int (0 : Int32), .int (0 : Int32), .int (0 : Int32), .null, .null, .int (0 : Int32), .null, .null, .int (0 : Int32), .int (0 : Int32), .null, .null, .null, .int (0 : Int32), .null, .null])), (q1, .inl (D.2 1, 5228, .inl (fun _ => (0 : Int32)))), (q3, .inl (D.2 1, 400, .inl (fun _ => (0 : Int32)))), (q5, .inl (D.2 3, 3, .inl (fun _ => (0 : Int32))))] := hD
  refine W.widen (k := 3) (n := 5631) (Nat.le_of_ble_eq_true rfl) (Nat.le_of_ble_eq_true rfl) ?_
  refine va_putF (D := D.1) (ci := 9) (v := .ref q5) (ty := (.array .boolean)) (C := RX12) (T := TX12) (N := 20) hx hb hts hwX12 tyX12 tyX12_ok nmX12 hown hK.1 hP hD hS 0 rfl rfl 2 (by decide) l16 (fun _ h9 => h9) rfl hin rfl (by decide +kernel) rfl rfl (Nat.le_of_ble_eq_true rfl) dX12_init_26 (fun H locs hP hD hS => ?_)
  have hP : va_P D.1 vwCl [(a0, .inr (9, [.ref q1, .ref q3, .ref q5, .int (0 : Int32), .int (0 : Int32), .int (0 : Int32), .int (0 : Int32), .null, .null, .int (0 : Int32), .null, .null, .int (0 : Int32), .int (0 : Int32), .null, .null, .null, .int (0 : Int32), .null, .null])), (q1, .inl (D.2 1, 5228, .inl (fun _ => (0 : Int32)))), (q3, .inl (D.2 1, 400, .inl (fun _ => (0 : Int32)))), (q5, .inl (D.2 3, 3, .inl (fun _ => (0 : Int32))))] H := hP
  have hD : va_D A [(a0, .inr (9, [.ref q1, .ref q3, .ref q5, .int (0 : Int32), .int (0 : Int32), .int (0 : Int32), .int (0 : Int32), .null, .null, .int (0 : Int32), .null, .null, .int (0 : Int32), .int (0 : Int32), .null, .null, .null, .int (0 : Int32), .null, .null])), (q1, .inl (D.2 1, 5228, .inl (fun _ => (0 : Int32)))), (q3, .inl (D.2 1, 400, .inl (fun _ => (0 : Int32)))), (q5, .inl (D.2 3, 3, .inl (fun _ => (0 : Int32))))] := hD
  refine lv_aload_n hx hb dX12_init_29 rfl (lv_at hl 0 rfl) ?_
  refine lv_iconst (v := -1) hx hb dX12_init_30 (by decide) ?_
  refine va_put (D := D.1) (ci := 9) (v := .int (-1 : Int32)) (ty := .int) (C := RX12) (T := TX12) (N := 20) hx hb hts hwX12 tyX12 tyX12_ok nmX12 hown hK.1 hP hD hS 0 rfl rfl 5 (by decide) l20 (fun _ h9 => h9) rfl (by decide +kernel) rfl rfl (Nat.le_of_ble_eq_true rfl) dX12_init_31 (fun H locs hP hD hS => ?_)
  have hP : va_P D.1 vwCl [(a0, .inr (9, [.ref q1, .ref q3, .ref q5, .int (0 : Int32), .int (0 : Int32), .int (-1 : Int32), .int (0 : Int32), .null, .null, .int (0 : Int32), .null, .null, .int (0 : Int32), .int (0 : Int32), .null, .null, .null, .int (0 : Int32), .null, .null])), (q1, .inl (D.2 1, 5228, .inl (fun _ => (0 : Int32)))), (q3, .inl (D.2 1, 400, .inl (fun _ => (0 : Int32)))), (q5, .inl (D.2 3, 3, .inl (fun _ => (0 : Int32))))] H := hP
  have hD : va_D A [(a0, .inr (9, [.ref q1, .ref q3, .ref q5, .int (0 : Int32), .int (0 : Int32), .int (-1 : Int32), .int (0 : Int32), .null, .null, .int (0 : Int32), .null, .null, .int (0 : Int32), .int (0 : Int32), .null, .null, .null, .int (0 : Int32), .null, .null])), (q1, .inl (D.2 1, 5228, .inl (fun _ => (0 : Int32)))), (q3, .inl (D.2 1, 400, .inl (fun _ => (0 : Int32)))), (q5, .inl (D.2 3, 3, .inl (fun _ => (0 : Int32))))] := hD
  refine lv_aload_n hx hb dX12_init_34 rfl (lv_at hl 0 rfl) ?_
  refine lv_sipush (v := 320) hx hb dX12_init_35 (by decide) ?_
  refine va_newa (atype := .int) (n := (320 : Int32)) (a0 := (320, .inl (fun _ => (0 : Int32)))) hx hb harrI rfl hK.1 hP hD hS hA (fun _ => rfl) (by decide) (by decide) (Nat.le_of_ble_eq_true rfl) (Nat.le_of_ble_eq_true rfl) (Nat.le_of_ble_eq_true rfl) dX12_init_38 (fun q7 cA8 H hK9 hP hD hS => ?_)
  obtain rfl := zsame hK9 1 rfl (fun _ h => h)
  have hP : va_P D.1 vwCl [(a0, .inr (9, [.ref q1, .ref q3, .ref q5, .int (0 : Int32), .int (0 : Int32), .int (-1 : Int32), .int (0 : Int32), .null, .null, .int (0 : Int32), .null, .null, .int (0 : Int32), .int (0 : Int32), .null, .null, .null, .int (0 : Int32), .null, .null])), (q1, .inl (D.2 1, 5228, .inl (fun _ => (0 : Int32)))), (q3, .inl (D.2 1, 400, .inl (fun _ => (0 : Int32)))), (q5, .inl (D.2 3, 3, .inl (fun _ => (0 : Int32)))), (q7, .inl (D.2 1, 320, .inl (fun _ => (0 : Int32))))] H := hP
  have hD : va_D A [(a0, .inr (9, [.ref q1, .ref q3, .ref q5, .int (0 : Int32), .int (0 : Int32), .int (-1 : Int32), .int (0 : Int32), .null, .null, .int (0 : Int32), .null, .null, .int (0 : Int32), .int (0 : Int32), .null, .null, .null, .int (0 : Int32), .null, .null])), (q1, .inl (D.2 1, 5228, .inl (fun _ => (0 : Int32)))), (q3, .inl (D.2 1, 400, .inl (fun _ => (0 : Int32)))), (q5, .inl (D.2 3, 3, .inl (fun _ => (0 : Int32)))), (q7, .inl (D.2 1, 320, .inl (fun _ => (0 : Int32))))] := hD
  refine W.widen (k := 4) (n := 5951) (Nat.le_of_ble_eq_true rfl) (Nat.le_of_ble_eq_true rfl) ?_
  refine va_putF (D := D.1) (ci := 9) (v := .ref q7) (ty := (.array .int)) (C := RX12) (T := TX12) (N := 20) hx hb hts hwX12 tyX12 tyX12_ok nmX12 hown hK.1 hP hD hS 0 rfl rfl 7 (by decide) l24 (fun _ h9 => h9) rfl hin rfl (by decide +kernel) rfl rfl (Nat.le_of_ble_eq_true rfl) dX12_init_40 (fun H locs hP hD hS => ?_)
  have hP : va_P D.1 vwCl [(a0, .inr (9, [.ref q1, .ref q3, .ref q5, .int (0 : Int32), .int (0 : Int32), .int (-1 : Int32), .int (0 : Int32), .ref q7, .null, .int (0 : Int32), .null, .null, .int (0 : Int32), .int (0 : Int32), .null, .null, .null, .int (0 : Int32), .null, .null])), (q1, .inl (D.2 1, 5228, .inl (fun _ => (0 : Int32)))), (q3, .inl (D.2 1, 400, .inl (fun _ => (0 : Int32)))), (q5, .inl (D.2 3, 3, .inl (fun _ => (0 : Int32)))), (q7, .inl (D.2 1, 320, .inl (fun _ => (0 : Int32))))] H := hP
  have hD : va_D A [(a0, .inr (9, [.ref q1, .ref q3, .ref q5, .int (0 : Int32), .int (0 : Int32), .int (-1 : Int32), .int (0 : Int32), .ref q7, .null, .int (0 : Int32), .null, .null, .int (0 : Int32), .int (0 : Int32), .null, .null, .null, .int (0 : Int32), .null, .null])), (q1, .inl (D.2 1, 5228, .inl (fun _ => (0 : Int32)))), (q3, .inl (D.2 1, 400, .inl (fun _ => (0 : Int32)))), (q5, .inl (D.2 3, 3, .inl (fun _ => (0 : Int32)))), (q7, .inl (D.2 1, 320, .inl (fun _ => (0 : Int32))))] := hD
  refine lv_aload_n hx hb dX12_init_43 rfl (lv_at hl 0 rfl) ?_
  refine lv_sipush (v := 320) hx hb dX12_init_44 (by decide) ?_
  refine va_newa (atype := .int) (n := (320 : Int32)) (a0 := (320, .inl (fun _ => (0 : Int32)))) hx hb harrI rfl hK.1 hP hD hS hA (fun _ => rfl) (by decide) (by decide) (Nat.le_of_ble_eq_true rfl) (Nat.le_of_ble_eq_true rfl) (Nat.le_of_ble_eq_true rfl) dX12_init_47 (fun q9 cA10 H hK9 hP hD hS => ?_)
  obtain rfl := zsame hK9 1 rfl (fun _ h => h)
  have hP : va_P D.1 vwCl [(a0, .inr (9, [.ref q1, .ref q3, .ref q5, .int (0 : Int32), .int (0 : Int32), .int (-1 : Int32), .int (0 : Int32), .ref q7, .null, .int (0 : Int32), .null, .null, .int (0 : Int32), .int (0 : Int32), .null, .null, .null, .int (0 : Int32), .null, .null])), (q1, .inl (D.2 1, 5228, .inl (fun _ => (0 : Int32)))), (q3, .inl (D.2 1, 400, .inl (fun _ => (0 : Int32)))), (q5, .inl (D.2 3, 3, .inl (fun _ => (0 : Int32)))), (q7, .inl (D.2 1, 320, .inl (fun _ => (0 : Int32)))), (q9, .inl (D.2 1, 320, .inl (fun _ => (0 : Int32))))] H := hP
  have hD : va_D A [(a0, .inr (9, [.ref q1, .ref q3, .ref q5, .int (0 : Int32), .int (0 : Int32), .int (-1 : Int32), .int (0 : Int32), .ref q7, .null, .int (0 : Int32), .null, .null, .int (0 : Int32), .int (0 : Int32), .null, .null, .null, .int (0 : Int32), .null, .null])), (q1, .inl (D.2 1, 5228, .inl (fun _ => (0 : Int32)))), (q3, .inl (D.2 1, 400, .inl (fun _ => (0 : Int32)))), (q5, .inl (D.2 3, 3, .inl (fun _ => (0 : Int32)))), (q7, .inl (D.2 1, 320, .inl (fun _ => (0 : Int32)))), (q9, .inl (D.2 1, 320, .inl (fun _ => (0 : Int32))))] := hD
  refine W.widen (k := 5) (n := 6271) (Nat.le_of_ble_eq_true rfl) (Nat.le_of_ble_eq_true rfl) ?_
  refine va_putF (D := D.1) (ci := 9) (v := .ref q9) (ty := (.array .int)) (C := RX12) (T := TX12) (N := 20) hx hb hts hwX12 tyX12 tyX12_ok nmX12 hown hK.1 hP hD hS 0 rfl rfl 8 (by decide) l27 (fun _ h9 => h9) rfl hin rfl (by decide +kernel) rfl rfl (Nat.le_of_ble_eq_true rfl) dX12_init_49 (fun H locs hP hD hS => ?_)
  have hP : va_P D.1 vwCl [(a0, .inr (9, [.ref q1, .ref q3, .ref q5, .int (0 : Int32), .int (0 : Int32), .int (-1 : Int32), .int (0 : Int32), .ref q7, .ref q9, .int (0 : Int32), .null, .null, .int (0 : Int32), .int (0 : Int32), .null, .null, .null, .int (0 : Int32), .null, .null])), (q1, .inl (D.2 1, 5228, .inl (fun _ => (0 : Int32)))), (q3, .inl (D.2 1, 400, .inl (fun _ => (0 : Int32)))), (q5, .inl (D.2 3, 3, .inl (fun _ => (0 : Int32)))), (q7, .inl (D.2 1, 320, .inl (fun _ => (0 : Int32)))), (q9, .inl (D.2 1, 320, .inl (fun _ => (0 : Int32))))] H := hP
  have hD : va_D A [(a0, .inr (9, [.ref q1, .ref q3, .ref q5, .int (0 : Int32), .int (0 : Int32), .int (-1 : Int32), .int (0 : Int32), .ref q7, .ref q9, .int (0 : Int32), .null, .null, .int (0 : Int32), .int (0 : Int32), .null, .null, .null, .int (0 : Int32), .null, .null])), (q1, .inl (D.2 1, 5228, .inl (fun _ => (0 : Int32)))), (q3, .inl (D.2 1, 400, .inl (fun _ => (0 : Int32)))), (q5, .inl (D.2 3, 3, .inl (fun _ => (0 : Int32)))), (q7, .inl (D.2 1, 320, .inl (fun _ => (0 : Int32)))), (q9, .inl (D.2 1, 320, .inl (fun _ => (0 : Int32))))] := hD
  refine lv_aload_n hx hb dX12_init_52 rfl (lv_at hl 0 rfl) ?_
  refine lv_bipush (v := 40) hx hb dX12_init_53 (by decide) ?_
  refine va_newa (atype := .int) (n := (40 : Int32)) (a0 := (40, .inl (fun _ => (0 : Int32)))) hx hb harrI rfl hK.1 hP hD hS hA (fun _ => rfl) (by decide) (by decide) (Nat.le_of_ble_eq_true rfl) (Nat.le_of_ble_eq_true rfl) (Nat.le_of_ble_eq_true rfl) dX12_init_55 (fun q11 cA12 H hK9 hP hD hS => ?_)
  obtain rfl := zsame hK9 1 rfl (fun _ h => h)
  have hP : va_P D.1 vwCl [(a0, .inr (9, [.ref q1, .ref q3, .ref q5, .int (0 : Int32), .int (0 : Int32), .int (-1 : Int32), .int (0 : Int32), .ref q7, .ref q9, .int (0 : Int32), .null, .null, .int (0 : Int32), .int (0 : Int32), .null, .null, .null, .int (0 : Int32), .null, .null])), (q1, .inl (D.2 1, 5228, .inl (fun _ => (0 : Int32)))), (q3, .inl (D.2 1, 400, .inl (fun _ => (0 : Int32)))), (q5, .inl (D.2 3, 3, .inl (fun _ => (0 : Int32)))), (q7, .inl (D.2 1, 320, .inl (fun _ => (0 : Int32)))), (q9, .inl (D.2 1, 320, .inl (fun _ => (0 : Int32)))), (q11, .inl (D.2 1, 40, .inl (fun _ => (0 : Int32))))] H := hP
  have hD : va_D A [(a0, .inr (9, [.ref q1, .ref q3, .ref q5, .int (0 : Int32), .int (0 : Int32), .int (-1 : Int32), .int (0 : Int32), .ref q7, .ref q9, .int (0 : Int32), .null, .null, .int (0 : Int32), .int (0 : Int32), .null, .null, .null, .int (0 : Int32), .null, .null])), (q1, .inl (D.2 1, 5228, .inl (fun _ => (0 : Int32)))), (q3, .inl (D.2 1, 400, .inl (fun _ => (0 : Int32)))), (q5, .inl (D.2 3, 3, .inl (fun _ => (0 : Int32)))), (q7, .inl (D.2 1, 320, .inl (fun _ => (0 : Int32)))), (q9, .inl (D.2 1, 320, .inl (fun _ => (0 : Int32)))), (q11, .inl (D.2 1, 40, .inl (fun _ => (0 : Int32))))] := hD
  refine W.widen (k := 6) (n := 6311) (Nat.le_of_ble_eq_true rfl) (Nat.le_of_ble_eq_true rfl) ?_
  refine va_putF (D := D.1) (ci := 9) (v := .ref q11) (ty := (.array .int)) (C := RX12) (T := TX12) (N := 20) hx hb hts hwX12 tyX12 tyX12_ok nmX12 hown hK.1 hP hD hS 0 rfl rfl 10 (by decide) l30 (fun _ h9 => h9) rfl hin rfl (by decide +kernel) rfl rfl (Nat.le_of_ble_eq_true rfl) dX12_init_57 (fun H locs hP hD hS => ?_)
  have hP : va_P D.1 vwCl [(a0, .inr (9, [.ref q1, .ref q3, .ref q5, .int (0 : Int32), .int (0 : Int32), .int (-1 : Int32), .int (0 : Int32), .ref q7, .ref q9, .int (0 : Int32), .ref q11, .null, .int (0 : Int32), .int (0 : Int32), .null, .null, .null, .int (0 : Int32), .null, .null])), (q1, .inl (D.2 1, 5228, .inl (fun _ => (0 : Int32)))), (q3, .inl (D.2 1, 400, .inl (fun _ => (0 : Int32)))), (q5, .inl (D.2 3, 3, .inl (fun _ => (0 : Int32)))), (q7, .inl (D.2 1, 320, .inl (fun _ => (0 : Int32)))), (q9, .inl (D.2 1, 320, .inl (fun _ => (0 : Int32)))), (q11, .inl (D.2 1, 40, .inl (fun _ => (0 : Int32))))] H := hP
  have hD : va_D A [(a0, .inr (9, [.ref q1, .ref q3, .ref q5, .int (0 : Int32), .int (0 : Int32), .int (-1 : Int32), .int (0 : Int32), .ref q7, .ref q9, .int (0 : Int32), .ref q11, .null, .int (0 : Int32), .int (0 : Int32), .null, .null, .null, .int (0 : Int32), .null, .null])), (q1, .inl (D.2 1, 5228, .inl (fun _ => (0 : Int32)))), (q3, .inl (D.2 1, 400, .inl (fun _ => (0 : Int32)))), (q5, .inl (D.2 3, 3, .inl (fun _ => (0 : Int32)))), (q7, .inl (D.2 1, 320, .inl (fun _ => (0 : Int32)))), (q9, .inl (D.2 1, 320, .inl (fun _ => (0 : Int32)))), (q11, .inl (D.2 1, 40, .inl (fun _ => (0 : Int32))))] := hD
  refine lv_aload_n hx hb dX12_init_60 rfl (lv_at hl 0 rfl) ?_
  refine lv_bipush (v := 14) hx hb dX12_init_61 (by decide) ?_
  refine va_newa (atype := .int) (n := (14 : Int32)) (a0 := (14, .inl (fun _ => (0 : Int32)))) hx hb harrI rfl hK.1 hP hD hS hA (fun _ => rfl) (by decide) (by decide) (Nat.le_of_ble_eq_true rfl) (Nat.le_of_ble_eq_true rfl) (Nat.le_of_ble_eq_true rfl) dX12_init_63 (fun q13 cA14 H hK9 hP hD hS => ?_)
  obtain rfl := zsame hK9 1 rfl (fun _ h => h)
  have hP : va_P D.1 vwCl [(a0, .inr (9, [.ref q1, .ref q3, .ref q5, .int (0 : Int32), .int (0 : Int32), .int (-1 : Int32), .int (0 : Int32), .ref q7, .ref q9, .int (0 : Int32), .ref q11, .null, .int (0 : Int32), .int (0 : Int32), .null, .null, .null, .int (0 : Int32), .null, .null])), (q1, .inl (D.2 1, 5228, .inl (fun _ => (0 : Int32)))), (q3, .inl (D.2 1, 400, .inl (fun _ => (0 : Int32)))), (q5, .inl (D.2 3, 3, .inl (fun _ => (0 : Int32)))), (q7, .inl (D.2 1, 320, .inl (fun _ => (0 : Int32)))), (q9, .inl (D.2 1, 320, .inl (fun _ => (0 : Int32)))), (q11, .inl (D.2 1, 40, .inl (fun _ => (0 : Int32)))), (q13, .inl (D.2 1, 14, .inl (fun _ => (0 : Int32))))] H := hP
  have hD : va_D A [(a0, .inr (9, [.ref q1, .ref q3, .ref q5, .int (0 : Int32), .int (0 : Int32), .int (-1 : Int32), .int (0 : Int32), .ref q7, .ref q9, .int (0 : Int32), .ref q11, .null, .int (0 : Int32), .int (0 : Int32), .null, .null, .null, .int (0 : Int32), .null, .null])), (q1, .inl (D.2 1, 5228, .inl (fun _ => (0 : Int32)))), (q3, .inl (D.2 1, 400, .inl (fun _ => (0 : Int32)))), (q5, .inl (D.2 3, 3, .inl (fun _ => (0 : Int32)))), (q7, .inl (D.2 1, 320, .inl (fun _ => (0 : Int32)))), (q9, .inl (D.2 1, 320, .inl (fun _ => (0 : Int32)))), (q11, .inl (D.2 1, 40, .inl (fun _ => (0 : Int32)))), (q13, .inl (D.2 1, 14, .inl (fun _ => (0 : Int32))))] := hD
  refine W.widen (k := 7) (n := 6325) (Nat.le_of_ble_eq_true rfl) (Nat.le_of_ble_eq_true rfl) ?_
  refine va_putF (D := D.1) (ci := 9) (v := .ref q13) (ty := (.array .int)) (C := RX12) (T := TX12) (N := 20) hx hb hts hwX12 tyX12 tyX12_ok nmX12 hown hK.1 hP hD hS 0 rfl rfl 11 (by decide) l33 (fun _ h9 => h9) rfl hin rfl (by decide +kernel) rfl rfl (Nat.le_of_ble_eq_true rfl) dX12_init_65 (fun H locs hP hD hS => ?_)
  have hP : va_P D.1 vwCl [(a0, .inr (9, [.ref q1, .ref q3, .ref q5, .int (0 : Int32), .int (0 : Int32), .int (-1 : Int32), .int (0 : Int32), .ref q7, .ref q9, .int (0 : Int32), .ref q11, .ref q13, .int (0 : Int32), .int (0 : Int32), .null, .null, .null, .int (0 : Int32), .null, .null])), (q1, .inl (D.2 1, 5228, .inl (fun _ => (0 : Int32)))), (q3, .inl (D.2 1, 400, .inl (fun _ => (0 : Int32)))), (q5, .inl (D.2 3, 3, .inl (fun _ => (0 : Int32)))), (q7, .inl (D.2 1, 320, .inl (fun _ => (0 : Int32)))), (q9, .inl (D.2 1, 320, .inl (fun _ => (0 : Int32)))), (q11, .inl (D.2 1, 40, .inl (fun _ => (0 : Int32)))), (q13, .inl (D.2 1, 14, .inl (fun _ => (0 : Int32))))] H := hP
  have hD : va_D A [(a0, .inr (9, [.ref q1, .ref q3, .ref q5, .int (0 : Int32), .int (0 : Int32), .int (-1 : Int32), .int (0 : Int32), .ref q7, .ref q9, .int (0 : Int32), .ref q11, .ref q13, .int (0 : Int32), .int (0 : Int32), .null, .null, .null, .int (0 : Int32), .null, .null])), (q1, .inl (D.2 1, 5228, .inl (fun _ => (0 : Int32)))), (q3, .inl (D.2 1, 400, .inl (fun _ => (0 : Int32)))), (q5, .inl (D.2 3, 3, .inl (fun _ => (0 : Int32)))), (q7, .inl (D.2 1, 320, .inl (fun _ => (0 : Int32)))), (q9, .inl (D.2 1, 320, .inl (fun _ => (0 : Int32)))), (q11, .inl (D.2 1, 40, .inl (fun _ => (0 : Int32)))), (q13, .inl (D.2 1, 14, .inl (fun _ => (0 : Int32))))] := hD
  refine lv_aload_n hx hb dX12_init_68 rfl (lv_at hl 0 rfl) ?_
  refine lv_bipush (v := 40) hx hb dX12_init_69 (by decide) ?_
  refine va_newa (atype := .int) (n := (40 : Int32)) (a0 := (40, .inl (fun _ => (0 : Int32)))) hx hb harrI rfl hK.1 hP hD hS hA (fun _ => rfl) (by decide) (by decide) (Nat.le_of_ble_eq_true rfl) (Nat.le_of_ble_eq_true rfl) (Nat.le_of_ble_eq_true rfl) dX12_init_71 (fun q15 cA16 H hK9 hP hD hS => ?_)
  obtain rfl := zsame hK9 1 rfl (fun _ h => h)
  have hP : va_P D.1 vwCl [(a0, .inr (9, [.ref q1, .ref q3, .ref q5, .int (0 : Int32), .int (0 : Int32), .int (-1 : Int32), .int (0 : Int32), .ref q7, .ref q9, .int (0 : Int32), .ref q11, .ref q13, .int (0 : Int32), .int (0 : Int32), .null, .null, .null, .int (0 : Int32), .null, .null])), (q1, .inl (D.2 1, 5228, .inl (fun _ => (0 : Int32)))), (q3, .inl (D.2 1, 400, .inl (fun _ => (0 : Int32)))), (q5, .inl (D.2 3, 3, .inl (fun _ => (0 : Int32)))), (q7, .inl (D.2 1, 320, .inl (fun _ => (0 : Int32)))), (q9, .inl (D.2 1, 320, .inl (fun _ => (0 : Int32)))), (q11, .inl (D.2 1, 40, .inl (fun _ => (0 : Int32)))), (q13, .inl (D.2 1, 14, .inl (fun _ => (0 : Int32)))), (q15, .inl (D.2 1, 40, .inl (fun _ => (0 : Int32))))] H := hP
  have hD : va_D A [(a0, .inr (9, [.ref q1, .ref q3, .ref q5, .int (0 : Int32), .int (0 : Int32), .int (-1 : Int32), .int (0 : Int32), .ref q7, .ref q9, .int (0 : Int32), .ref q11, .ref q13, .int (0 : Int32), .int (0 : Int32), .null, .null, .null, .int (0 : Int32), .null, .null])), (q1, .inl (D.2 1, 5228, .inl (fun _ => (0 : Int32)))), (q3, .inl (D.2 1, 400, .inl (fun _ => (0 : Int32)))), (q5, .inl (D.2 3, 3, .inl (fun _ => (0 : Int32)))), (q7, .inl (D.2 1, 320, .inl (fun _ => (0 : Int32)))), (q9, .inl (D.2 1, 320, .inl (fun _ => (0 : Int32)))), (q11, .inl (D.2 1, 40, .inl (fun _ => (0 : Int32)))), (q13, .inl (D.2 1, 14, .inl (fun _ => (0 : Int32)))), (q15, .inl (D.2 1, 40, .inl (fun _ => (0 : Int32))))] := hD
  refine W.widen (k := 8) (n := 6365) (Nat.le_of_ble_eq_true rfl) (Nat.le_of_ble_eq_true rfl) ?_
  refine va_putF (D := D.1) (ci := 9) (v := .ref q15) (ty := (.array .int)) (C := RX12) (T := TX12) (N := 20) hx hb hts hwX12 tyX12 tyX12_ok nmX12 hown hK.1 hP hD hS 0 rfl rfl 14 (by decide) l36 (fun _ h9 => h9) rfl hin rfl (by decide +kernel) rfl rfl (Nat.le_of_ble_eq_true rfl) dX12_init_73 (fun H locs hP hD hS => ?_)
  have hP : va_P D.1 vwCl [(a0, .inr (9, [.ref q1, .ref q3, .ref q5, .int (0 : Int32), .int (0 : Int32), .int (-1 : Int32), .int (0 : Int32), .ref q7, .ref q9, .int (0 : Int32), .ref q11, .ref q13, .int (0 : Int32), .int (0 : Int32), .ref q15, .null, .null, .int (0 : Int32), .null, .null])), (q1, .inl (D.2 1, 5228, .inl (fun _ => (0 : Int32)))), (q3, .inl (D.2 1, 400, .inl (fun _ => (0 : Int32)))), (q5, .inl (D.2 3, 3, .inl (fun _ => (0 : Int32)))), (q7, .inl (D.2 1, 320, .inl (fun _ => (0 : Int32)))), (q9, .inl (D.2 1, 320, .inl (fun _ => (0 : Int32)))), (q11, .inl (D.2 1, 40, .inl (fun _ => (0 : Int32)))), (q13, .inl (D.2 1, 14, .inl (fun _ => (0 : Int32)))), (q15, .inl (D.2 1, 40, .inl (fun _ => (0 : Int32))))] H := hP
  have hD : va_D A [(a0, .inr (9, [.ref q1, .ref q3, .ref q5, .int (0 : Int32), .int (0 : Int32), .int (-1 : Int32), .int (0 : Int32), .ref q7, .ref q9, .int (0 : Int32), .ref q11, .ref q13, .int (0 : Int32), .int (0 : Int32), .ref q15, .null, .null, .int (0 : Int32), .null, .null])), (q1, .inl (D.2 1, 5228, .inl (fun _ => (0 : Int32)))), (q3, .inl (D.2 1, 400, .inl (fun _ => (0 : Int32)))), (q5, .inl (D.2 3, 3, .inl (fun _ => (0 : Int32)))), (q7, .inl (D.2 1, 320, .inl (fun _ => (0 : Int32)))), (q9, .inl (D.2 1, 320, .inl (fun _ => (0 : Int32)))), (q11, .inl (D.2 1, 40, .inl (fun _ => (0 : Int32)))), (q13, .inl (D.2 1, 14, .inl (fun _ => (0 : Int32)))), (q15, .inl (D.2 1, 40, .inl (fun _ => (0 : Int32))))] := hD
  refine lv_aload_n hx hb dX12_init_76 rfl (lv_at hl 0 rfl) ?_
  refine lv_bipush (v := 40) hx hb dX12_init_77 (by decide) ?_
  refine va_newa (atype := .int) (n := (40 : Int32)) (a0 := (40, .inl (fun _ => (0 : Int32)))) hx hb harrI rfl hK.1 hP hD hS hA (fun _ => rfl) (by decide) (by decide) (Nat.le_of_ble_eq_true rfl) (Nat.le_of_ble_eq_true rfl) (Nat.le_of_ble_eq_true rfl) dX12_init_79 (fun q17 cA18 H hK9 hP hD hS => ?_)
  obtain rfl := zsame hK9 1 rfl (fun _ h => h)
  have hP : va_P D.1 vwCl [(a0, .inr (9, [.ref q1, .ref q3, .ref q5, .int (0 : Int32), .int (0 : Int32), .int (-1 : Int32), .int (0 : Int32), .ref q7, .ref q9, .int (0 : Int32), .ref q11, .ref q13, .int (0 : Int32), .int (0 : Int32), .ref q15, .null, .null, .int (0 : Int32), .null, .null])), (q1, .inl (D.2 1, 5228, .inl (fun _ => (0 : Int32)))), (q3, .inl (D.2 1, 400, .inl (fun _ => (0 : Int32)))), (q5, .inl (D.2 3, 3, .inl (fun _ => (0 : Int32)))), (q7, .inl (D.2 1, 320, .inl (fun _ => (0 : Int32)))), (q9, .inl (D.2 1, 320, .inl (fun _ => (0 : Int32)))), (q11, .inl (D.2 1, 40, .inl (fun _ => (0 : Int32)))), (q13, .inl (D.2 1, 14, .inl (fun _ => (0 : Int32)))), (q15, .inl (D.2 1, 40, .inl (fun _ => (0 : Int32)))), (q17, .inl (D.2 1, 40, .inl (fun _ => (0 : Int32))))] H := hP
  have hD : va_D A [(a0, .inr (9, [.ref q1, .ref q3, .ref q5, .int (0 : Int32), .int (0 : Int32), .int (-1 : Int32), .int (0 : Int32), .ref q7, .ref q9, .int (0 : Int32), .ref q11, .ref q13, .int (0 : Int32), .int (0 : Int32), .ref q15, .null, .null, .int (0 : Int32), .null, .null])), (q1, .inl (D.2 1, 5228, .inl (fun _ => (0 : Int32)))), (q3, .inl (D.2 1, 400, .inl (fun _ => (0 : Int32)))), (q5, .inl (D.2 3, 3, .inl (fun _ => (0 : Int32)))), (q7, .inl (D.2 1, 320, .inl (fun _ => (0 : Int32)))), (q9, .inl (D.2 1, 320, .inl (fun _ => (0 : Int32)))), (q11, .inl (D.2 1, 40, .inl (fun _ => (0 : Int32)))), (q13, .inl (D.2 1, 14, .inl (fun _ => (0 : Int32)))), (q15, .inl (D.2 1, 40, .inl (fun _ => (0 : Int32)))), (q17, .inl (D.2 1, 40, .inl (fun _ => (0 : Int32))))] := hD
  refine W.widen (k := 9) (n := 6405) (Nat.le_of_ble_eq_true rfl) (Nat.le_of_ble_eq_true rfl) ?_
  refine va_putF (D := D.1) (ci := 9) (v := .ref q17) (ty := (.array .int)) (C := RX12) (T := TX12) (N := 20) hx hb hts hwX12 tyX12 tyX12_ok nmX12 hown hK.1 hP hD hS 0 rfl rfl 15 (by decide) l39 (fun _ h9 => h9) rfl hin rfl (by decide +kernel) rfl rfl (Nat.le_of_ble_eq_true rfl) dX12_init_81 (fun H locs hP hD hS => ?_)
  have hP : va_P D.1 vwCl [(a0, .inr (9, [.ref q1, .ref q3, .ref q5, .int (0 : Int32), .int (0 : Int32), .int (-1 : Int32), .int (0 : Int32), .ref q7, .ref q9, .int (0 : Int32), .ref q11, .ref q13, .int (0 : Int32), .int (0 : Int32), .ref q15, .ref q17, .null, .int (0 : Int32), .null, .null])), (q1, .inl (D.2 1, 5228, .inl (fun _ => (0 : Int32)))), (q3, .inl (D.2 1, 400, .inl (fun _ => (0 : Int32)))), (q5, .inl (D.2 3, 3, .inl (fun _ => (0 : Int32)))), (q7, .inl (D.2 1, 320, .inl (fun _ => (0 : Int32)))), (q9, .inl (D.2 1, 320, .inl (fun _ => (0 : Int32)))), (q11, .inl (D.2 1, 40, .inl (fun _ => (0 : Int32)))), (q13, .inl (D.2 1, 14, .inl (fun _ => (0 : Int32)))), (q15, .inl (D.2 1, 40, .inl (fun _ => (0 : Int32)))), (q17, .inl (D.2 1, 40, .inl (fun _ => (0 : Int32))))] H := hP
  have hD : va_D A [(a0, .inr (9, [.ref q1, .ref q3, .ref q5, .int (0 : Int32), .int (0 : Int32), .int (-1 : Int32), .int (0 : Int32), .ref q7, .ref q9, .int (0 : Int32), .ref q11, .ref q13, .int (0 : Int32), .int (0 : Int32), .ref q15, .ref q17, .null, .int (0 : Int32), .null, .null])), (q1, .inl (D.2 1, 5228, .inl (fun _ => (0 : Int32)))), (q3, .inl (D.2 1, 400, .inl (fun _ => (0 : Int32)))), (q5, .inl (D.2 3, 3, .inl (fun _ => (0 : Int32)))), (q7, .inl (D.2 1, 320, .inl (fun _ => (0 : Int32)))), (q9, .inl (D.2 1, 320, .inl (fun _ => (0 : Int32)))), (q11, .inl (D.2 1, 40, .inl (fun _ => (0 : Int32)))), (q13, .inl (D.2 1, 14, .inl (fun _ => (0 : Int32)))), (q15, .inl (D.2 1, 40, .inl (fun _ => (0 : Int32)))), (q17, .inl (D.2 1, 40, .inl (fun _ => (0 : Int32))))] := hD
  refine lv_aload_n hx hb dX12_init_84 rfl (lv_at hl 0 rfl) ?_
  refine lv_bipush (v := 40) hx hb dX12_init_85 (by decide) ?_
  refine va_newa (atype := .int) (n := (40 : Int32)) (a0 := (40, .inl (fun _ => (0 : Int32)))) hx hb harrI rfl hK.1 hP hD hS hA (fun _ => rfl) (by decide) (by decide) (Nat.le_of_ble_eq_true rfl) (Nat.le_of_ble_eq_true rfl) (Nat.le_of_ble_eq_true rfl) dX12_init_87 (fun q19 cA20 H hK9 hP hD hS => ?_)
  obtain rfl := zsame hK9 1 rfl (fun _ h => h)
  have hP : va_P D.1 vwCl [(a0, .inr (9, [.ref q1, .ref q3, .ref q5, .int (0 : Int32), .int (0 : Int32), .int (-1 : Int32), .int (0 : Int32), .ref q7, .ref q9, .int (0 : Int32), .ref q11, .ref q13, .int (0 : Int32), .int (0 : Int32), .ref q15, .ref q17, .null, .int (0 : Int32), .null, .null])), (q1, .inl (D.2 1, 5228, .inl (fun _ => (0 : Int32)))), (q3, .inl (D.2 1, 400, .inl (fun _ => (0 : Int32)))), (q5, .inl (D.2 3, 3, .inl (fun _ => (0 : Int32)))), (q7, .inl (D.2 1, 320, .inl (fun _ => (0 : Int32)))), (q9, .inl (D.2 1, 320, .inl (fun _ => (0 : Int32)))), (q11, .inl (D.2 1, 40, .inl (fun _ => (0 : Int32)))), (q13, .inl (D.2 1, 14, .inl (fun _ => (0 : Int32)))), (q15, .inl (D.2 1, 40, .inl (fun _ => (0 : Int32)))), (q17, .inl (D.2 1, 40, .inl (fun _ => (0 : Int32)))), (q19, .inl (D.2 1, 40, .inl (fun _ => (0 : Int32))))] H := hP
  have hD : va_D A [(a0, .inr (9, [.ref q1, .ref q3, .ref q5, .int (0 : Int32), .int (0 : Int32), .int (-1 : Int32), .int (0 : Int32), .ref q7, .ref q9, .int (0 : Int32), .ref q11, .ref q13, .int (0 : Int32), .int (0 : Int32), .ref q15, .ref q17, .null, .int (0 : Int32), .null, .null])), (q1, .inl (D.2 1, 5228, .inl (fun _ => (0 : Int32)))), (q3, .inl (D.2 1, 400, .inl (fun _ => (0 : Int32)))), (q5, .inl (D.2 3, 3, .inl (fun _ => (0 : Int32)))), (q7, .inl (D.2 1, 320, .inl (fun _ => (0 : Int32)))), (q9, .inl (D.2 1, 320, .inl (fun _ => (0 : Int32)))), (q11, .inl (D.2 1, 40, .inl (fun _ => (0 : Int32)))), (q13, .inl (D.2 1, 14, .inl (fun _ => (0 : Int32)))), (q15, .inl (D.2 1, 40, .inl (fun _ => (0 : Int32)))), (q17, .inl (D.2 1, 40, .inl (fun _ => (0 : Int32)))), (q19, .inl (D.2 1, 40, .inl (fun _ => (0 : Int32))))] := hD
  refine W.widen (k := 10) (n := 6445) (Nat.le_of_ble_eq_true rfl) (Nat.le_of_ble_eq_true rfl) ?_
  refine va_putF (D := D.1) (ci := 9) (v := .ref q19) (ty := (.array .int)) (C := RX12) (T := TX12) (N := 20) hx hb hts hwX12 tyX12 tyX12_ok nmX12 hown hK.1 hP hD hS 0 rfl rfl 16 (by decide) l42 (fun _ h9 => h9) rfl hin rfl (by decide +kernel) rfl rfl (Nat.le_of_ble_eq_true rfl) dX12_init_89 (fun H locs hP hD hS => ?_)
  have hP : va_P D.1 vwCl [(a0, .inr (9, [.ref q1, .ref q3, .ref q5, .int (0 : Int32), .int (0 : Int32), .int (-1 : Int32), .int (0 : Int32), .ref q7, .ref q9, .int (0 : Int32), .ref q11, .ref q13, .int (0 : Int32), .int (0 : Int32), .ref q15, .ref q17, .ref q19, .int (0 : Int32), .null, .null])), (q1, .inl (D.2 1, 5228, .inl (fun _ => (0 : Int32)))), (q3, .inl (D.2 1, 400, .inl (fun _ => (0 : Int32)))), (q5, .inl (D.2 3, 3, .inl (fun _ => (0 : Int32)))), (q7, .inl (D.2 1, 320, .inl (fun _ => (0 : Int32)))), (q9, .inl (D.2 1, 320, .inl (fun _ => (0 : Int32)))), (q11, .inl (D.2 1, 40, .inl (fun _ => (0 : Int32)))), (q13, .inl (D.2 1, 14, .inl (fun _ => (0 : Int32)))), (q15, .inl (D.2 1, 40, .inl (fun _ => (0 : Int32)))), (q17, .inl (D.2 1, 40, .inl (fun _ => (0 : Int32)))), (q19, .inl (D.2 1, 40, .inl (fun _ => (0 : Int32))))] H := hP
  have hD : va_D A [(a0, .inr (9, [.ref q1, .ref q3, .ref q5, .int (0 : Int32), .int (0 : Int32), .int (-1 : Int32), .int (0 : Int32), .ref q7, .ref q9, .int (0 : Int32), .ref q11, .ref q13, .int (0 : Int32), .int (0 : Int32), .ref q15, .ref q17, .ref q19, .int (0 : Int32), .null, .null])), (q1, .inl (D.2 1, 5228, .inl (fun _ => (0 : Int32)))), (q3, .inl (D.2 1, 400, .inl (fun _ => (0 : Int32)))), (q5, .inl (D.2 3, 3, .inl (fun _ => (0 : Int32)))), (q7, .inl (D.2 1, 320, .inl (fun _ => (0 : Int32)))), (q9, .inl (D.2 1, 320, .inl (fun _ => (0 : Int32)))), (q11, .inl (D.2 1, 40, .inl (fun _ => (0 : Int32)))), (q13, .inl (D.2 1, 14, .inl (fun _ => (0 : Int32)))), (q15, .inl (D.2 1, 40, .inl (fun _ => (0 : Int32)))), (q17, .inl (D.2 1, 40, .inl (fun _ => (0 : Int32)))), (q19, .inl (D.2 1, 40, .inl (fun _ => (0 : Int32))))] := hD
  refine lv_aload_n hx hb dX12_init_92 rfl (lv_at hl 0 rfl) ?_
  refine lv_sipush (v := 128) hx hb dX12_init_93 (by decide) ?_
  refine va_newa (atype := .int) (n := (128 : Int32)) (a0 := (128, .inl (fun _ => (0 : Int32)))) hx hb harrI rfl hK.1 hP hD hS hA (fun _ => rfl) (by decide) (by decide) (Nat.le_of_ble_eq_true rfl) (Nat.le_of_ble_eq_true rfl) (Nat.le_of_ble_eq_true rfl) dX12_init_96 (fun q21 cA22 H hK9 hP hD hS => ?_)
  obtain rfl := zsame hK9 1 rfl (fun _ h => h)
  have hP : va_P D.1 vwCl [(a0, .inr (9, [.ref q1, .ref q3, .ref q5, .int (0 : Int32), .int (0 : Int32), .int (-1 : Int32), .int (0 : Int32), .ref q7, .ref q9, .int (0 : Int32), .ref q11, .ref q13, .int (0 : Int32), .int (0 : Int32), .ref q15, .ref q17, .ref q19, .int (0 : Int32), .null, .null])), (q1, .inl (D.2 1, 5228, .inl (fun _ => (0 : Int32)))), (q3, .inl (D.2 1, 400, .inl (fun _ => (0 : Int32)))), (q5, .inl (D.2 3, 3, .inl (fun _ => (0 : Int32)))), (q7, .inl (D.2 1, 320, .inl (fun _ => (0 : Int32)))), (q9, .inl (D.2 1, 320, .inl (fun _ => (0 : Int32)))), (q11, .inl (D.2 1, 40, .inl (fun _ => (0 : Int32)))), (q13, .inl (D.2 1, 14, .inl (fun _ => (0 : Int32)))), (q15, .inl (D.2 1, 40, .inl (fun _ => (0 : Int32)))), (q17, .inl (D.2 1, 40, .inl (fun _ => (0 : Int32)))), (q19, .inl (D.2 1, 40, .inl (fun _ => (0 : Int32)))), (q21, .inl (D.2 1, 128, .inl (fun _ => (0 : Int32))))] H := hP
  have hD : va_D A [(a0, .inr (9, [.ref q1, .ref q3, .ref q5, .int (0 : Int32), .int (0 : Int32), .int (-1 : Int32), .int (0 : Int32), .ref q7, .ref q9, .int (0 : Int32), .ref q11, .ref q13, .int (0 : Int32), .int (0 : Int32), .ref q15, .ref q17, .ref q19, .int (0 : Int32), .null, .null])), (q1, .inl (D.2 1, 5228, .inl (fun _ => (0 : Int32)))), (q3, .inl (D.2 1, 400, .inl (fun _ => (0 : Int32)))), (q5, .inl (D.2 3, 3, .inl (fun _ => (0 : Int32)))), (q7, .inl (D.2 1, 320, .inl (fun _ => (0 : Int32)))), (q9, .inl (D.2 1, 320, .inl (fun _ => (0 : Int32)))), (q11, .inl (D.2 1, 40, .inl (fun _ => (0 : Int32)))), (q13, .inl (D.2 1, 14, .inl (fun _ => (0 : Int32)))), (q15, .inl (D.2 1, 40, .inl (fun _ => (0 : Int32)))), (q17, .inl (D.2 1, 40, .inl (fun _ => (0 : Int32)))), (q19, .inl (D.2 1, 40, .inl (fun _ => (0 : Int32)))), (q21, .inl (D.2 1, 128, .inl (fun _ => (0 : Int32))))] := hD
  refine W.widen (k := 11) (n := 6573) (Nat.le_of_ble_eq_true rfl) (Nat.le_of_ble_eq_true rfl) ?_
  refine va_putF (D := D.1) (ci := 9) (v := .ref q21) (ty := (.array .int)) (C := RX12) (T := TX12) (N := 20) hx hb hts hwX12 tyX12 tyX12_ok nmX12 hown hK.1 hP hD hS 0 rfl rfl 18 (by decide) l45 (fun _ h9 => h9) rfl hin rfl (by decide +kernel) rfl rfl (Nat.le_of_ble_eq_true rfl) dX12_init_98 (fun H locs hP hD hS => ?_)
  have hP : va_P D.1 vwCl [(a0, .inr (9, [.ref q1, .ref q3, .ref q5, .int (0 : Int32), .int (0 : Int32), .int (-1 : Int32), .int (0 : Int32), .ref q7, .ref q9, .int (0 : Int32), .ref q11, .ref q13, .int (0 : Int32), .int (0 : Int32), .ref q15, .ref q17, .ref q19, .int (0 : Int32), .ref q21, .null])), (q1, .inl (D.2 1, 5228, .inl (fun _ => (0 : Int32)))), (q3, .inl (D.2 1, 400, .inl (fun _ => (0 : Int32)))), (q5, .inl (D.2 3, 3, .inl (fun _ => (0 : Int32)))), (q7, .inl (D.2 1, 320, .inl (fun _ => (0 : Int32)))), (q9, .inl (D.2 1, 320, .inl (fun _ => (0 : Int32)))), (q11, .inl (D.2 1, 40, .inl (fun _ => (0 : Int32)))), (q13, .inl (D.2 1, 14, .inl (fun _ => (0 : Int32)))), (q15, .inl (D.2 1, 40, .inl (fun _ => (0 : Int32)))), (q17, .inl (D.2 1, 40, .inl (fun _ => (0 : Int32)))), (q19, .inl (D.2 1, 40, .inl (fun _ => (0 : Int32)))), (q21, .inl (D.2 1, 128, .inl (fun _ => (0 : Int32))))] H := hP
  have hD : va_D A [(a0, .inr (9, [.ref q1, .ref q3, .ref q5, .int (0 : Int32), .int (0 : Int32), .int (-1 : Int32), .int (0 : Int32), .ref q7, .ref q9, .int (0 : Int32), .ref q11, .ref q13, .int (0 : Int32), .int (0 : Int32), .ref q15, .ref q17, .ref q19, .int (0 : Int32), .ref q21, .null])), (q1, .inl (D.2 1, 5228, .inl (fun _ => (0 : Int32)))), (q3, .inl (D.2 1, 400, .inl (fun _ => (0 : Int32)))), (q5, .inl (D.2 3, 3, .inl (fun _ => (0 : Int32)))), (q7, .inl (D.2 1, 320, .inl (fun _ => (0 : Int32)))), (q9, .inl (D.2 1, 320, .inl (fun _ => (0 : Int32)))), (q11, .inl (D.2 1, 40, .inl (fun _ => (0 : Int32)))), (q13, .inl (D.2 1, 14, .inl (fun _ => (0 : Int32)))), (q15, .inl (D.2 1, 40, .inl (fun _ => (0 : Int32)))), (q17, .inl (D.2 1, 40, .inl (fun _ => (0 : Int32)))), (q19, .inl (D.2 1, 40, .inl (fun _ => (0 : Int32)))), (q21, .inl (D.2 1, 128, .inl (fun _ => (0 : Int32))))] := hD
  refine lv_aload_n hx hb dX12_init_101 rfl (lv_at hl 0 rfl) ?_
  refine lv_sipush (v := 320) hx hb dX12_init_102 (by decide) ?_
  refine va_newa (atype := .int) (n := (320 : Int32)) (a0 := (320, .inl (fun _ => (0 : Int32)))) hx hb harrI rfl hK.1 hP hD hS hA (fun _ => rfl) (by decide) (by decide) (Nat.le_of_ble_eq_true rfl) (Nat.le_of_ble_eq_true rfl) (Nat.le_of_ble_eq_true rfl) dX12_init_105 (fun q23 cA24 H hK9 hP hD hS => ?_)
  obtain rfl := zsame hK9 1 rfl (fun _ h => h)
  have hP : va_P D.1 vwCl [(a0, .inr (9, [.ref q1, .ref q3, .ref q5, .int (0 : Int32), .int (0 : Int32), .int (-1 : Int32), .int (0 : Int32), .ref q7, .ref q9, .int (0 : Int32), .ref q11, .ref q13, .int (0 : Int32), .int (0 : Int32), .ref q15, .ref q17, .ref q19, .int (0 : Int32), .ref q21, .null])), (q1, .inl (D.2 1, 5228, .inl (fun _ => (0 : Int32)))), (q3, .inl (D.2 1, 400, .inl (fun _ => (0 : Int32)))), (q5, .inl (D.2 3, 3, .inl (fun _ => (0 : Int32)))), (q7, .inl (D.2 1, 320, .inl (fun _ => (0 : Int32)))), (q9, .inl (D.2 1, 320, .inl (fun _ => (0 : Int32)))), (q11, .inl (D.2 1, 40, .inl (fun _ => (0 : Int32)))), (q13, .inl (D.2 1, 14, .inl (fun _ => (0 : Int32)))), (q15, .inl (D.2 1, 40, .inl (fun _ => (0 : Int32)))), (q17, .inl (D.2 1, 40, .inl (fun _ => (0 : Int32)))), (q19, .inl (D.2 1, 40, .inl (fun _ => (0 : Int32)))), (q21, .inl (D.2 1, 128, .inl (fun _ => (0 : Int32)))), (q23, .inl (D.2 1, 320, .inl (fun _ => (0 : Int32))))] H := hP
  have hD : va_D A [(a0, .inr (9, [.ref q1, .ref q3, .ref q5, .int (0 : Int32), .int (0 : Int32), .int (-1 : Int32), .int (0 : Int32), .ref q7, .ref q9, .int (0 : Int32), .ref q11, .ref q13, .int (0 : Int32), .int (0 : Int32), .ref q15, .ref q17, .ref q19, .int (0 : Int32), .ref q21, .null])), (q1, .inl (D.2 1, 5228, .inl (fun _ => (0 : Int32)))), (q3, .inl (D.2 1, 400, .inl (fun _ => (0 : Int32)))), (q5, .inl (D.2 3, 3, .inl (fun _ => (0 : Int32)))), (q7, .inl (D.2 1, 320, .inl (fun _ => (0 : Int32)))), (q9, .inl (D.2 1, 320, .inl (fun _ => (0 : Int32)))), (q11, .inl (D.2 1, 40, .inl (fun _ => (0 : Int32)))), (q13, .inl (D.2 1, 14, .inl (fun _ => (0 : Int32)))), (q15, .inl (D.2 1, 40, .inl (fun _ => (0 : Int32)))), (q17, .inl (D.2 1, 40, .inl (fun _ => (0 : Int32)))), (q19, .inl (D.2 1, 40, .inl (fun _ => (0 : Int32)))), (q21, .inl (D.2 1, 128, .inl (fun _ => (0 : Int32)))), (q23, .inl (D.2 1, 320, .inl (fun _ => (0 : Int32))))] := hD
  refine W.widen (k := 12) (n := 6893) (Nat.le_of_ble_eq_true rfl) (Nat.le_of_ble_eq_true rfl) ?_
  refine va_putF (D := D.1) (ci := 9) (v := .ref q23) (ty := (.array .int)) (C := RX12) (T := TX12) (N := 20) hx hb hts hwX12 tyX12 tyX12_ok nmX12 hown hK.1 hP hD hS 0 rfl rfl 19 (by decide) l48 (fun _ h9 => h9) rfl hin rfl (by decide +kernel) rfl rfl (Nat.le_of_ble_eq_true rfl) dX12_init_107 (fun H locs hP hD hS => ?_)
  have hP : va_P D.1 vwCl [(a0, .inr (9, [.ref q1, .ref q3, .ref q5, .int (0 : Int32), .int (0 : Int32), .int (-1 : Int32), .int (0 : Int32), .ref q7, .ref q9, .int (0 : Int32), .ref q11, .ref q13, .int (0 : Int32), .int (0 : Int32), .ref q15, .ref q17, .ref q19, .int (0 : Int32), .ref q21, .ref q23])), (q1, .inl (D.2 1, 5228, .inl (fun _ => (0 : Int32)))), (q3, .inl (D.2 1, 400, .inl (fun _ => (0 : Int32)))), (q5, .inl (D.2 3, 3, .inl (fun _ => (0 : Int32)))), (q7, .inl (D.2 1, 320, .inl (fun _ => (0 : Int32)))), (q9, .inl (D.2 1, 320, .inl (fun _ => (0 : Int32)))), (q11, .inl (D.2 1, 40, .inl (fun _ => (0 : Int32)))), (q13, .inl (D.2 1, 14, .inl (fun _ => (0 : Int32)))), (q15, .inl (D.2 1, 40, .inl (fun _ => (0 : Int32)))), (q17, .inl (D.2 1, 40, .inl (fun _ => (0 : Int32)))), (q19, .inl (D.2 1, 40, .inl (fun _ => (0 : Int32)))), (q21, .inl (D.2 1, 128, .inl (fun _ => (0 : Int32)))), (q23, .inl (D.2 1, 320, .inl (fun _ => (0 : Int32))))] H := hP
  have hD : va_D A [(a0, .inr (9, [.ref q1, .ref q3, .ref q5, .int (0 : Int32), .int (0 : Int32), .int (-1 : Int32), .int (0 : Int32), .ref q7, .ref q9, .int (0 : Int32), .ref q11, .ref q13, .int (0 : Int32), .int (0 : Int32), .ref q15, .ref q17, .ref q19, .int (0 : Int32), .ref q21, .ref q23])), (q1, .inl (D.2 1, 5228, .inl (fun _ => (0 : Int32)))), (q3, .inl (D.2 1, 400, .inl (fun _ => (0 : Int32)))), (q5, .inl (D.2 3, 3, .inl (fun _ => (0 : Int32)))), (q7, .inl (D.2 1, 320, .inl (fun _ => (0 : Int32)))), (q9, .inl (D.2 1, 320, .inl (fun _ => (0 : Int32)))), (q11, .inl (D.2 1, 40, .inl (fun _ => (0 : Int32)))), (q13, .inl (D.2 1, 14, .inl (fun _ => (0 : Int32)))), (q15, .inl (D.2 1, 40, .inl (fun _ => (0 : Int32)))), (q17, .inl (D.2 1, 40, .inl (fun _ => (0 : Int32)))), (q19, .inl (D.2 1, 40, .inl (fun _ => (0 : Int32)))), (q21, .inl (D.2 1, 128, .inl (fun _ => (0 : Int32)))), (q23, .inl (D.2 1, 320, .inl (fun _ => (0 : Int32))))] := hD
  refine lv_aload_n hx hb dX12_init_110 rfl (lv_at hl 0 rfl) ?_
  refine va_get (D := D.1) (ci := 9) (v := .ref q1) (C := RX12) (T := TX12) (N := 20) hx hb hts hwX12 hown hK.1 hP 0 rfl rfl 0 (by decide) l7 (fun _ h9 => h9) rfl dX12_init_111 ?_
  refine lv_sipush (v := 430) hx hb dX12_init_114 (by decide) ?_
  refine lv_iconst (v := 1) hx hb dX12_init_117 (by decide) ?_
  obtain ⟨h_25, hf⟩ := gd hf
  refine va_iast hx hb hK.1 hP hD hS 1 1 rfl rfl h_25 dX12_init_118 (fun H locs hP hD hS => ?_)
  have hP : va_P D.1 vwCl [(a0, .inr (9, [.ref q1, .ref q3, .ref q5, .int (0 : Int32), .int (0 : Int32), .int (-1 : Int32), .int (0 : Int32), .ref q7, .ref q9, .int (0 : Int32), .ref q11, .ref q13, .int (0 : Int32), .int (0 : Int32), .ref q15, .ref q17, .ref q19, .int (0 : Int32), .ref q21, .ref q23])), (q1, .inl (D.2 1, 5228, .inl (upd (fun _ => (0 : Int32)) ((430 : Int32)).toNatClampNeg (1 : Int32)))), (q3, .inl (D.2 1, 400, .inl (fun _ => (0 : Int32)))), (q5, .inl (D.2 3, 3, .inl (fun _ => (0 : Int32)))), (q7, .inl (D.2 1, 320, .inl (fun _ => (0 : Int32)))), (q9, .inl (D.2 1, 320, .inl (fun _ => (0 : Int32)))), (q11, .inl (D.2 1, 40, .inl (fun _ => (0 : Int32)))), (q13, .inl (D.2 1, 14, .inl (fun _ => (0 : Int32)))), (q15, .inl (D.2 1, 40, .inl (fun _ => (0 : Int32)))), (q17, .inl (D.2 1, 40, .inl (fun _ => (0 : Int32)))), (q19, .inl (D.2 1, 40, .inl (fun _ => (0 : Int32)))), (q21, .inl (D.2 1, 128, .inl (fun _ => (0 : Int32)))), (q23, .inl (D.2 1, 320, .inl (fun _ => (0 : Int32))))] H := hP
  have hD : va_D A [(a0, .inr (9, [.ref q1, .ref q3, .ref q5, .int (0 : Int32), .int (0 : Int32), .int (-1 : Int32), .int (0 : Int32), .ref q7, .ref q9, .int (0 : Int32), .ref q11, .ref q13, .int (0 : Int32), .int (0 : Int32), .ref q15, .ref q17, .ref q19, .int (0 : Int32), .ref q21, .ref q23])), (q1, .inl (D.2 1, 5228, .inl (upd (fun _ => (0 : Int32)) ((430 : Int32)).toNatClampNeg (1 : Int32)))), (q3, .inl (D.2 1, 400, .inl (fun _ => (0 : Int32)))), (q5, .inl (D.2 3, 3, .inl (fun _ => (0 : Int32)))), (q7, .inl (D.2 1, 320, .inl (fun _ => (0 : Int32)))), (q9, .inl (D.2 1, 320, .inl (fun _ => (0 : Int32)))), (q11, .inl (D.2 1, 40, .inl (fun _ => (0 : Int32)))), (q13, .inl (D.2 1, 14, .inl (fun _ => (0 : Int32)))), (q15, .inl (D.2 1, 40, .inl (fun _ => (0 : Int32)))), (q17, .inl (D.2 1, 40, .inl (fun _ => (0 : Int32)))), (q19, .inl (D.2 1, 40, .inl (fun _ => (0 : Int32)))), (q21, .inl (D.2 1, 128, .inl (fun _ => (0 : Int32)))), (q23, .inl (D.2 1, 320, .inl (fun _ => (0 : Int32))))] := hD
  refine lv_aload_n hx hb dX12_init_119 rfl (lv_at hl 0 rfl) ?_
  refine va_get (D := D.1) (ci := 9) (v := .ref q1) (C := RX12) (T := TX12) (N := 20) hx hb hts hwX12 hown hK.1 hP 0 rfl rfl 0 (by decide) l7 (fun _ h9 => h9) rfl dX12_init_120 ?_
  refine lv_sipush (v := 431) hx hb dX12_init_123 (by decide) ?_
  refine lv_bipush (v := 42) hx hb dX12_init_126 (by decide) ?_
  obtain ⟨h_26, hf⟩ := gd hf
  refine va_iast hx hb hK.1 hP hD hS 1 1 rfl rfl h_26 dX12_init_128 (fun H locs hP hD hS => ?_)
  have hP : va_P D.1 vwCl [(a0, .inr (9, [.ref q1, .ref q3, .ref q5, .int (0 : Int32), .int (0 : Int32), .int (-1 : Int32), .int (0 : Int32), .ref q7, .ref q9, .int (0 : Int32), .ref q11, .ref q13, .int (0 : Int32), .int (0 : Int32), .ref q15, .ref q17, .ref q19, .int (0 : Int32), .ref q21, .ref q23])), (q1, .inl (D.2 1, 5228, .inl (upd (upd (fun _ => (0 : Int32)) ((430 : Int32)).toNatClampNeg (1 : Int32)) ((431 : Int32)).toNatClampNeg (42 : Int32)))), (q3, .inl (D.2 1, 400, .inl (fun _ => (0 : Int32)))), (q5, .inl (D.2 3, 3, .inl (fun _ => (0 : Int32)))), (q7, .inl (D.2 1, 320, .inl (fun _ => (0 : Int32)))), (q9, .inl (D.2 1, 320, .inl (fun _ => (0 : Int32)))), (q11, .inl (D.2 1, 40, .inl (fun _ => (0 : Int32)))), (q13, .inl (D.2 1, 14, .inl (fun _ => (0 : Int32)))), (q15, .inl (D.2 1, 40, .inl (fun _ => (0 : Int32)))), (q17, .inl (D.2 1, 40, .inl (fun _ => (0 : Int32)))), (q19, .inl (D.2 1, 40, .inl (fun _ => (0 : Int32)))), (q21, .inl (D.2 1, 128, .inl (fun _ => (0 : Int32)))), (q23, .inl (D.2 1, 320, .inl (fun _ => (0 : Int32))))] H := hP
  have hD : va_D A [(a0, .inr (9, [.ref q1, .ref q3, .ref q5, .int (0 : Int32), .int (0 : Int32), .int (-1 : Int32), .int (0 : Int32), .ref q7, .ref q9, .int (0 : Int32), .ref q11, .ref q13, .int (0 : Int32), .int (0 : Int32), .ref q15, .ref q17, .ref q19, .int (0 : Int32), .ref q21, .ref q23])), (q1, .inl (D.2 1, 5228, .inl (upd (upd (fun _ => (0 : Int32)) ((430 : Int32)).toNatClampNeg (1 : Int32)) ((431 : Int32)).toNatClampNeg (42 : Int32)))), (q3, .inl (D.2 1, 400, .inl (fun _ => (0 : Int32)))), (q5, .inl (D.2 3, 3, .inl (fun _ => (0 : Int32)))), (q7, .inl (D.2 1, 320, .inl (fun _ => (0 : Int32)))), (q9, .inl (D.2 1, 320, .inl (fun _ => (0 : Int32)))), (q11, .inl (D.2 1, 40, .inl (fun _ => (0 : Int32)))), (q13, .inl (D.2 1, 14, .inl (fun _ => (0 : Int32)))), (q15, .inl (D.2 1, 40, .inl (fun _ => (0 : Int32)))), (q17, .inl (D.2 1, 40, .inl (fun _ => (0 : Int32)))), (q19, .inl (D.2 1, 40, .inl (fun _ => (0 : Int32)))), (q21, .inl (D.2 1, 128, .inl (fun _ => (0 : Int32)))), (q23, .inl (D.2 1, 320, .inl (fun _ => (0 : Int32))))] := hD
  have he := Option.some.inj hf
  rw [hQ]
  exact W.vret hx hb hr (fun t ht hW => by rw [← he]; exact ⟨⟨(q1, q3, q5, q7, q9, q11, q13, q15, q17, q19, q21, q23), rfl, trivial, by rw [ht]; exact hP, hD⟩, hS.F ht⟩) hS.2.2 dX12_init_129
def fX12_isIn (p0 : Int32) (p1 : Int32) (p2 : Int32) : Option (Int32) :=
  if p0 < p1 then
    some ((0 : Int32))
  else
    if p2 < p0 then
      some ((0 : Int32))
    else
      some ((1 : Int32))
set_option maxHeartbeats 4000000 in
set_option maxRecDepth 100000 in
theorem mX12_isIn (l : Launch) (D : zG)  (sz : Nat)   (p0 : Int32) (p1 : Int32) (p2 : Int32) (res : Int32) (hf : fX12_isIn p0 p1 p2 = some res) : Met l yX12_isIn wsX12_isIn ({ frames := 0, cells := 0, slots := 0, locals := 0 } : Room) (va_Pc [.int p0, .int p1, .int p2] (zW D sz [])) (va_Qi (fun r (_ : Unit) => r = res ∧ (r = 0 ∨ r = 1)) (fun _ => zB D (va_A [] sz) []) (va_A [] sz)) 0 0 (va_A [] sz) := by
  refine Met.ofW (cc := cX12_isIn) (maxL := 3) (ret := (some .boolean)) (by decide) rfl ?_
  intro p e s m args below meth c s₁ B hml hv
  obtain ⟨rfl, hsz, hP, hK, hD0⟩ := hv
  have hx := B.exec
  have hb := B.bytes
  have hr := B.returns
  have hts := atoms_spec (ws := wsX12_isIn) B.pre
  have hown : s.vm.findClass RX12 = some m.cls := findClass_of_methodNamed B.named
  have hlocks := B.notSynchronized
  subst hsz
  have hD := hD0.self (sz := s.heap.size)
  generalize hAe : va_A [] s.heap.size = A at hD ⊢
  have hA : ∀ q : Nat, s.heap.size ≤ q → A q := fun q h => by rw [← hAe]; exact Or.inr h
  have hl := lv_entry ([.int p0, .int p1, .int p2]) (n := 3) (Nat.le_of_ble_eq_true rfl)
  rw [lg_entry_eq]
  generalize (lg_sl ([.int p0, .int p1, .int p2]) ++ List.replicate (3 - (lg_sl ([.int p0, .int p1, .int p2])).length) Slot.unset).toArray = ls at hl ⊢
  have hl : lv_has ls 3 [(0, .int p0), (1, .int p1), (2, .int p2)] := hl
  refine zStart (A := A) hP (fun Q0 H locs hQ hP hS => ?_)
  unfold fX12_isIn at hf
  refine lv_iload_n hx hb dX12_isIn_0 rfl (lv_at hl 0 rfl) ?_
  refine lv_iload_n hx hb dX12_isIn_1 rfl (lv_at hl 1 rfl) ?_
  refine lv_icmp_lt (tgt := 14) hx hb dX12_isIn_2 (by decide) (fun c_1 => ?_) (fun c_1 => ?_)
  · replace hf := ip c_1 hf
    refine lv_iconst (v := 0) hx hb dX12_isIn_14 (by decide) ?_
    have he := Option.some.inj hf
    rw [hQ]
    exact W.zret (v := (0 : Int32)) hx hb hr (znb (Or.inl rfl)) (fun t ht hW => by rw [← he]; exact ⟨⟨(0 : Int32), (), rfl, ⟨rfl, Or.inl rfl⟩, by rw [ht]; exact hP, hD⟩, hS.F ht⟩) hS.2.2 dX12_isIn_15
  · replace hf := im c_1 hf
    refine lv_iload_n hx hb dX12_isIn_5 rfl (lv_at hl 0 rfl) ?_
    refine lv_iload_n hx hb dX12_isIn_6 rfl (lv_at hl 2 rfl) ?_
    refine lv_icmp_gt (tgt := 14) hx hb dX12_isIn_7 (by decide) (fun c_2 => ?_) (fun c_2 => ?_)
    · replace hf := ip c_2 hf
      refine lv_iconst (v := 0) hx hb dX12_isIn_14 (by decide) ?_
      have he := Option.some.inj hf
      rw [hQ]
      exact W.zret (v := (0 : Int32)) hx hb hr (znb (Or.inl rfl)) (fun t ht hW => by rw [← he]; exact ⟨⟨(0 : Int32), (), rfl, ⟨rfl, Or.inl rfl⟩, by rw [ht]; exact hP, hD⟩, hS.F ht⟩) hS.2.2 dX12_isIn_15
    · replace hf := im c_2 hf
      refine lv_iconst (v := 1) hx hb dX12_isIn_10 (by decide) ?_
      refine lv_goto (tgt := 15) hx hb dX12_isIn_11 (by decide) ?_
      have he := Option.some.inj hf
      rw [hQ]
      exact W.zret (v := (1 : Int32)) hx hb hr (znb (Or.inr rfl)) (fun t ht hW => by rw [← he]; exact ⟨⟨(1 : Int32), (), rfl, ⟨rfl, Or.inr rfl⟩, by rw [ht]; exact hP, hD⟩, hS.F ht⟩) hS.2.2 dX12_isIn_15
def fX12_isLetter (p0 : Int32) : Option (Int32) :=
  Option.bind (fX12_isIn p0 (97 : Int32) (122 : Int32)) fun r1 =>
  some (r1)
set_option maxHeartbeats 4000000 in
set_option maxRecDepth 100000 in
theorem mX12_isLetter (l : Launch) (D : zG)  (sz : Nat)   (p0 : Int32) (res : Int32) (hf : fX12_isLetter p0 = some res) : Met l yX12_isLetter wsX12_isLetter ({ frames := 1, cells := 0, slots := 0, locals := 22 } : Room) (va_Pc [.int p0] (zW D sz [])) (va_Qi (fun r (_ : Unit) => r = res ∧ (r = 0 ∨ r = 1)) (fun _ => zB D (va_A [] sz) []) (va_A [] sz)) 0 0 (va_A [] sz) := by
  refine Met.ofW (cc := cX12_isLetter) (maxL := 1) (ret := (some .boolean)) (by decide) rfl ?_
  intro p e s m args below meth c s₁ B hml hv
  obtain ⟨rfl, hsz, hP, hK, hD0⟩ := hv
  have hx := B.exec
  have hb := B.bytes
  have hr := B.returns
  have hts := atoms_spec (ws := wsX12_isLetter) B.pre
  have hown : s.vm.findClass RX12 = some m.cls := findClass_of_methodNamed B.named
  have hlocks := B.notSynchronized
  subst hsz
  have hD := hD0.self (sz := s.heap.size)
  generalize hAe : va_A [] s.heap.size = A at hD ⊢
  have hA : ∀ q : Nat, s.heap.size ≤ q → A q := fun q h => by rw [← hAe]; exact Or.inr h
  have hl := lv_entry ([.int p0]) (n := 1) (Nat.le_of_ble_eq_true rfl)
  rw [lg_entry_eq]
  generalize (lg_sl ([.int p0]) ++ List.replicate (1 - (lg_sl ([.int p0])).length) Slot.unset).toArray = ls at hl ⊢
  have hl : lv_has ls 1 [(0, .int p0)] := hl
  refine zStart (A := A) hP (fun Q0 H locs hQ hP hS => ?_)
  unfold fX12_isLetter at hf
  refine lv_iload_n hx hb dX12_isLetter_0 rfl (lv_at hl 0 rfl) ?_
  refine lv_bipush (v := 97) hx hb dX12_isLetter_1 (by decide) ?_
  refine lv_bipush (v := 122) hx hb dX12_isLetter_3 (by decide) ?_
  obtain ⟨r1, hr1, hf⟩ := bd hf
  refine zSz (As := [.int p0, .int (97 : Int32), .int (122 : Int32)]) (rest := []) (wn := []) ⟨hx, hb, hml, hown, hts⟩ (mX12_isIn l D H.size p0 (97 : Int32) (122 : Int32) r1 hr1) (va_cwS 3 hts gX12_isLetter_X12_isIn rfl rfl rfl (by decide +kernel) ⟨Nat.le_of_ble_eq_true rfl, Nat.le_of_ble_eq_true rfl⟩) hK hP hD hS hA [] [] [] rfl (by decide) rfl (by decide) (by decide) rfl (by decide) rfl hl.1 rfl (Nat.le_of_ble_eq_true rfl) dX12_isLetter_5 ⟨Nat.zero_le _, Nat.zero_le _⟩ (fun H locs hb_2 hP hD hS => ?_)
  have he := Option.some.inj hf
  rw [hQ]
  exact W.zret (v := r1) hx hb hr (znb (hb_2)) (fun t ht hW => by rw [← he]; exact ⟨⟨r1, (), rfl, ⟨rfl, hb_2⟩, by rw [ht]; exact hP, hD⟩, hS.F ht⟩) hS.2.2 dX12_isLetter_8
def fX12_copies_3 (N : Nat) (p1 : Int32) (p2 : Int32) (p3 : Int32) : Nat → Int32 → (Nat → Int32) → Option ((Nat → Int32))
  | 0, _, _ => none
  | K + 1, x4, g0_all =>
    if p3 ≤ x4 then
      some (g0_all)
    else
      if (p1 + x4) < 0 ∨ 5228 ≤ ((p1 + x4)).toNatClampNeg then none else
      if (p2 + x4) < 0 ∨ 5228 ≤ ((p2 + x4)).toNatClampNeg then none else
      (fX12_copies_3 N p1 p2 p3 K) (x4 + (1 : Int32)) (upd g0_all ((p2 + x4)).toNatClampNeg (g0_all ((p1 + x4)).toNatClampNeg))
def fX12_copies (N : Nat) (g0_all : Nat → Int32) (p1 : Int32) (p2 : Int32) (p3 : Int32) : Option ((Nat → Int32)) :=
  fX12_copies_3 N p1 p2 p3 N (0 : Int32) g0_all
set_option maxHeartbeats 4000000 in
set_option maxRecDepth 100000 in
theorem mX12_copies (l : Launch) (D : zG) (a0 : Nat) (a0_all : Nat) (a0_tape : Nat) (a0_isImage : Nat) (a0_turnWord : Nat) (a0_turnFrom : Nat) (a0_pieceSign : Nat) (a0_pieceFrom : Nat) (a0_runFrom : Nat) (a0_runLong : Nat) (a0_runPiece : Nat) (a0_alike : Nat) (a0_stood : Nat) (sz : Nat)  (v0_taped : Int32) (v0_faultKind : Int32) (v0_faultPlace : Int32) (v0_undos : Int32) (v0_turns : Int32) (v0_pieces : Int32) (v0_signs : Int32) (v0_runs : Int32) (g0_all : Nat → Int32) (p1 : Int32) (p2 : Int32) (p3 : Int32) (N : Nat) (res : (Nat → Int32)) (hf : fX12_copies N g0_all p1 p2 p3 = some res) : Met l yX12_copies wsX12_copies ({ frames := 0, cells := 0, slots := 0, locals := 0 } : Room) (va_Pc [.ref a0, .int p1, .int p2, .int p3] (zW D sz [(a0, .inr (9, [.ref a0_all, .ref a0_tape, .ref a0_isImage, .int v0_taped, .int v0_faultKind, .int v0_faultPlace, .int v0_undos, .ref a0_turnWord, .ref a0_turnFrom, .int v0_turns, .ref a0_pieceSign, .ref a0_pieceFrom, .int v0_pieces, .int v0_signs, .ref a0_runFrom, .ref a0_runLong, .ref a0_runPiece, .int v0_runs, .ref a0_alike, .ref a0_stood])), (a0_all, .inl (D.2 1, 5228, .inl g0_all))])) (va_Qv (fun (_ : Unit) => True) (fun _ => zB D (va_A [(a0, .inr (9, [.ref a0_all, .ref a0_tape, .ref a0_isImage, .int v0_taped, .int v0_faultKind, .int v0_faultPlace, .int v0_undos, .ref a0_turnWord, .ref a0_turnFrom, .int v0_turns, .ref a0_pieceSign, .ref a0_pieceFrom, .int v0_pieces, .int v0_signs, .ref a0_runFrom, .ref a0_runLong, .ref a0_runPiece, .int v0_runs, .ref a0_alike, .ref a0_stood])), (a0_all, .inl (D.2 1, 5228, .inl g0_all))] sz) [(a0, .inr (9, [.ref a0_all, .ref a0_tape, .ref a0_isImage, .int v0_taped, .int v0_faultKind, .int v0_faultPlace, .int v0_undos, .ref a0_turnWord, .ref a0_turnFrom, .int v0_turns, .ref a0_pieceSign, .ref a0_pieceFrom, .int v0_pieces, .int v0_signs, .ref a0_runFrom, .ref a0_runLong, .ref a0_runPiece, .int v0_runs, .ref a0_alike, .ref a0_stood])), (a0_all, .inl (D.2 1, 5228, .inl res))]) (va_A [(a0, .inr (9, [.ref a0_all, .ref a0_tape, .ref a0_isImage, .int v0_taped, .int v0_faultKind, .int v0_faultPlace, .int v0_undos, .ref a0_turnWord, .ref a0_turnFrom, .int v0_turns, .ref a0_pieceSign, .ref a0_pieceFrom, .int v0_pieces, .int v0_signs, .ref a0_runFrom, .ref a0_runLong, .ref a0_runPiece, .int v0_runs, .ref a0_alike, .ref a0_stood])), (a0_all, .inl (D.2 1, 5228, .inl g0_all))] sz)) 0 0 (va_A [(a0, .inr (9, [.ref a0_all, .ref a0_tape, .ref a0_isImage, .int v0_taped, .int v0_faultKind, .int v0_faultPlace, .int v0_undos, .ref a0_turnWord, .ref a0_turnFrom, .int v0_turns, .ref a0_pieceSign, .ref a0_pieceFrom, .int v0_pieces, .int v0_signs, .ref a0_runFrom, .ref a0_runLong, .ref a0_runPiece, .int v0_runs, .ref a0_alike, .ref a0_stood])), (a0_all, .inl (D.2 1, 5228, .inl g0_all))] sz) := by
  refine Met.ofW (cc := cX12_copies) (maxL := 5) (ret := none) (by decide) rfl ?_
  intro p e s m args below meth c s₁ B hml hv
  obtain ⟨rfl, hsz, hP, hK, hD0⟩ := hv
  have hx := B.exec
  have hb := B.bytes
  have hr := B.returns
  have hts := atoms_spec (ws := wsX12_copies) B.pre
  have hown : s.vm.findClass RX12 = some m.cls := findClass_of_methodNamed B.named
  have hlocks := B.notSynchronized
  subst hsz
  have hD := hD0.self (sz := s.heap.size)
  generalize hAe : va_A [(a0, .inr (9, [.ref a0_all, .ref a0_tape, .ref a0_isImage, .int v0_taped, .int v0_faultKind, .int v0_faultPlace, .int v0_undos, .ref a0_turnWord, .ref a0_turnFrom, .int v0_turns, .ref a0_pieceSign, .ref a0_pieceFrom, .int v0_pieces, .int v0_signs, .ref a0_runFrom, .ref a0_runLong, .ref a0_runPiece, .int v0_runs, .ref a0_alike, .ref a0_stood])), (a0_all, .inl (D.2 1, 5228, .inl g0_all))] s.heap.size = A at hD ⊢
  have hA : ∀ q : Nat, s.heap.size ≤ q → A q := fun q h => by rw [← hAe]; exact Or.inr h
  have l7 := zat hts 1 (w := .fieldLink RX12 7 "TurnedWordsModel" "all" "[I") rfl
  have hwX12 : ∀ w ∈ u_ws RX12 TX12 20, w ∈ wsX12_copies := fun w h => List.mem_cons_of_mem _ (List.mem_append_right _ h)
  have hl := lv_entry ([.ref a0, .int p1, .int p2, .int p3]) (n := 5) (Nat.le_of_ble_eq_true rfl)
  rw [lg_entry_eq]
  generalize (lg_sl ([.ref a0, .int p1, .int p2, .int p3]) ++ List.replicate (5 - (lg_sl ([.ref a0, .int p1, .int p2, .int p3])).length) Slot.unset).toArray = ls at hl ⊢
  have hl : lv_has ls 5 [(0, .ref a0), (1, .int p1), (2, .int p2), (3, .int p3)] := hl
  refine zStart (A := A) hP (fun Q0 H locs hQ hP hS => ?_)
  have k3 : ∀ K : Nat, ∀ (x4 : Int32) (g0_all : Nat → Int32) (H : Heap) (locs : List Loc) (ls : Array Slot), fX12_copies_3 N p1 p2 p3 K x4 g0_all = some res → va_P D.1 vwCl [(a0, .inr (9, [.ref a0_all, .ref a0_tape, .ref a0_isImage, .int v0_taped, .int v0_faultKind, .int v0_faultPlace, .int v0_undos, .ref a0_turnWord, .ref a0_turnFrom, .int v0_turns, .ref a0_pieceSign, .ref a0_pieceFrom, .int v0_pieces, .int v0_signs, .ref a0_runFrom, .ref a0_runLong, .ref a0_runPiece, .int v0_runs, .ref a0_alike, .ref a0_stood])), (a0_all, .inl (D.2 1, 5228, .inl g0_all))] H → va_D A [(a0, .inr (9, [.ref a0_all, .ref a0_tape, .ref a0_isImage, .int v0_taped, .int v0_faultKind, .int v0_faultPlace, .int v0_undos, .ref a0_turnWord, .ref a0_turnFrom, .int v0_turns, .ref a0_pieceSign, .ref a0_pieceFrom, .int v0_pieces, .int v0_signs, .ref a0_runFrom, .ref a0_runLong, .ref a0_runPiece, .int v0_runs, .ref a0_alike, .ref a0_stood])), (a0_all, .inl (D.2 1, 5228, .inl g0_all))] → va_S A s.heap H locs → lv_has ls 5 [(0, .ref a0), (1, .int p1), (2, .int p2), (3, .int p3), (4, .int x4)] → W p l e (headSpec wsX12_copies ({ frames := 0, cells := 0, slots := 0, locals := 0 } : Room)).room s m ([.ref a0, .int p1, .int p2, .int p3] : List Value).toArray below meth c H locs 0 0 Q0 (F0 m 3 ls []) := by
    intro K
    induction K with
    | zero =>
      intro x4 g0_all H locs ls hf
      rw [fX12_copies_3] at hf
      cases hf
    | succ K ih =>
      intro x4 g0_all H locs ls hf hP hD hS hl
      rw [fX12_copies_3] at hf
      refine lv_iload hx hb dX12_copies_3 (lv_at hl 4 rfl) ?_
      refine lv_iload_n hx hb dX12_copies_5 rfl (lv_at hl 3 rfl) ?_
      refine lv_icmp_ge (tgt := 33) hx hb dX12_copies_6 (by decide) (fun c_1 => ?_) (fun c_1 => ?_)
      · replace hf := ip c_1 hf
        have he := Option.some.inj hf
        rw [hQ]
        exact W.vret hx hb hr (fun t ht hW => by rw [← he]; exact ⟨⟨(), rfl, trivial, by rw [ht]; exact hP, hD⟩, hS.F ht⟩) hS.2.2 dX12_copies_33
      · replace hf := im c_1 hf
        refine lv_aload_n hx hb dX12_copies_9 rfl (lv_at hl 0 rfl) ?_
        refine va_get (D := D.1) (ci := 9) (v := .ref a0_all) (C := RX12) (T := TX12) (N := 20) hx hb hts hwX12 hown hK.1 hP 0 rfl rfl 0 (by decide) l7 (fun _ h9 => h9) rfl dX12_copies_10 ?_
        refine lv_iload_n hx hb dX12_copies_13 rfl (lv_at hl 2 rfl) ?_
        refine lv_iload hx hb dX12_copies_14 (lv_at hl 4 rfl) ?_
        refine lv_iadd hx hb dX12_copies_16 ?_
        refine lv_aload_n hx hb dX12_copies_17 rfl (lv_at hl 0 rfl) ?_
        refine va_get (D := D.1) (ci := 9) (v := .ref a0_all) (C := RX12) (T := TX12) (N := 20) hx hb hts hwX12 hown hK.1 hP 0 rfl rfl 0 (by decide) l7 (fun _ h9 => h9) rfl dX12_copies_18 ?_
        refine lv_iload_n hx hb dX12_copies_21 rfl (lv_at hl 1 rfl) ?_
        refine lv_iload hx hb dX12_copies_22 (lv_at hl 4 rfl) ?_
        refine lv_iadd hx hb dX12_copies_24 ?_
        obtain ⟨h_2, hf⟩ := gd hf
        refine va_iald hx hb hK.1 hP 1 1 rfl rfl h_2 dX12_copies_25 ?_
        obtain ⟨h_3, hf⟩ := gd hf
        refine va_iast hx hb hK.1 hP hD hS 1 1 rfl rfl h_3 dX12_copies_26 (fun H locs hP hD hS => ?_)
        have hP : va_P D.1 vwCl [(a0, .inr (9, [.ref a0_all, .ref a0_tape, .ref a0_isImage, .int v0_taped, .int v0_faultKind, .int v0_faultPlace, .int v0_undos, .ref a0_turnWord, .ref a0_turnFrom, .int v0_turns, .ref a0_pieceSign, .ref a0_pieceFrom, .int v0_pieces, .int v0_signs, .ref a0_runFrom, .ref a0_runLong, .ref a0_runPiece, .int v0_runs, .ref a0_alike, .ref a0_stood])), (a0_all, .inl (D.2 1, 5228, .inl (upd g0_all ((p2 + x4)).toNatClampNeg (g0_all ((p1 + x4)).toNatClampNeg))))] H := hP
        have hD : va_D A [(a0, .inr (9, [.ref a0_all, .ref a0_tape, .ref a0_isImage, .int v0_taped, .int v0_faultKind, .int v0_faultPlace, .int v0_undos, .ref a0_turnWord, .ref a0_turnFrom, .int v0_turns, .ref a0_pieceSign, .ref a0_pieceFrom, .int v0_pieces, .int v0_signs, .ref a0_runFrom, .ref a0_runLong, .ref a0_runPiece, .int v0_runs, .ref a0_alike, .ref a0_stood])), (a0_all, .inl (D.2 1, 5228, .inl (upd g0_all ((p2 + x4)).toNatClampNeg (g0_all ((p1 + x4)).toNatClampNeg))))] := hD
        refine lv_iinc (v := (x4 + (1 : Int32))) (lv' := [(4, .int (x4 + (1 : Int32))), (0, .ref a0), (1, .int p1), (2, .int p2), (3, .int p3)]) hx hb dX12_copies_27 hl (k := 4) rfl rfl (by decide) rfl (fun ls hl => ?_)
        refine lv_goto (tgt := 3) hx hb dX12_copies_30 (by decide) ?_
        exact ih (x4 + (1 : Int32)) (upd g0_all ((p2 + x4)).toNatClampNeg (g0_all ((p1 + x4)).toNatClampNeg)) H locs ls hf hP hD hS (lv_sub hl [1, 2, 3, 4, 0] rfl)
  unfold fX12_copies at hf
  refine lv_iconst (v := 0) hx hb dX12_copies_0 (by decide) ?_
  refine lv_istore (lv' := [(4, .int (0 : Int32)), (0, .ref a0), (1, .int p1), (2, .int p2), (3, .int p3)]) hx hb dX12_copies_1 hl (by decide) rfl (fun ls hl => ?_)
  exact k3 N (0 : Int32) g0_all H locs ls hf hP hD hS (lv_sub hl [1, 2, 3, 4, 0] rfl)
def fX12_wordAt (p0 : Int32) (p1 : Int32) : Option (Int32) :=
  some (((p0 + (1 : Int32)) + ((8 : Int32) * p1)))
set_option maxHeartbeats 4000000 in
set_option maxRecDepth 100000 in
theorem mX12_wordAt (l : Launch) (D : zG)  (sz : Nat)   (p0 : Int32) (p1 : Int32) (res : Int32) (hf : fX12_wordAt p0 p1 = some res) : Met l yX12_wordAt wsX12_wordAt ({ frames := 0, cells := 0, slots := 0, locals := 0 } : Room) (va_Pc [.int p0, .int p1] (zW D sz [])) (va_Qi (fun r (_ : Unit) => r = res) (fun _ => zB D (va_A [] sz) []) (va_A [] sz)) 0 0 (va_A [] sz) := by
  refine Met.ofW (cc := cX12_wordAt) (maxL := 2) (ret := (some .int)) (by decide) rfl ?_
  intro p e s m args below meth c s₁ B hml hv
  obtain ⟨rfl, hsz, hP, hK, hD0⟩ := hv
  have hx := B.exec
  have hb := B.bytes
  have hr := B.returns
  have hts := atoms_spec (ws := wsX12_wordAt) B.pre
  have hown : s.vm.findClass RX12 = some m.cls := findClass_of_methodNamed B.named
  have hlocks := B.notSynchronized
  subst hsz
  have hD := hD0.self (sz := s.heap.size)
  generalize hAe : va_A [] s.heap.size = A at hD ⊢
  have hA : ∀ q : Nat, s.heap.size ≤ q → A q := fun q h => by rw [← hAe]; exact Or.inr h
  have hl := lv_entry ([.int p0, .int p1]) (n := 2) (Nat.le_of_ble_eq_true rfl)
  rw [lg_entry_eq]
  generalize (lg_sl ([.int p0, .int p1]) ++ List.replicate (2 - (lg_sl ([.int p0, .int p1])).length) Slot.unset).toArray = ls at hl ⊢
  have hl : lv_has ls 2 [(0, .int p0), (1, .int p1)] := hl
  refine zStart (A := A) hP (fun Q0 H locs hQ hP hS => ?_)
  unfold fX12_wordAt at hf
  refine lv_iload_n hx hb dX12_wordAt_0 rfl (lv_at hl 0 rfl) ?_
  refine lv_iconst (v := 1) hx hb dX12_wordAt_1 (by decide) ?_
  refine lv_iadd hx hb dX12_wordAt_2 ?_
  refine lv_bipush (v := 8) hx hb dX12_wordAt_3 (by decide) ?_
  refine lv_iload_n hx hb dX12_wordAt_5 rfl (lv_at hl 1 rfl) ?_
  refine lv_imul hx hb dX12_wordAt_6 ?_
  refine lv_iadd hx hb dX12_wordAt_7 ?_
  have he := Option.some.inj hf
  rw [hQ]
  exact W.iret (v := ((p0 + (1 : Int32)) + ((8 : Int32) * p1))) hx hb hr (fun t ht hW => by rw [← he]; exact ⟨⟨((p0 + (1 : Int32)) + ((8 : Int32) * p1)), (), rfl, rfl, by rw [ht]; exact hP, hD⟩, hS.F ht⟩) hS.2.2 dX12_wordAt_8
def fX12_order_54 (N : Nat) (g0_all : Nat → Int32) (p1 : Int32) (p2 : Int32) (rec2 : Int32 → Option (Int32)) (y0 : Int32) (x3 : Int32) (x4 : Int32) : Option (Int32) :=
  if x4 = y0 then
    rec2 (x3 + (1 : Int32))
  else
    if y0 ≤ x4 then
      some ((1 : Int32))
    else
      some ((-1 : Int32))
def fX12_order_30 (N : Nat) (g0_all : Nat → Int32) (p1 : Int32) (p2 : Int32) (rec2 : Int32 → Option (Int32)) (y0 : Int32) (x3 : Int32) : Option (Int32) :=
  if p2 < 0 ∨ 5228 ≤ (p2).toNatClampNeg then none else
  if (g0_all (p2).toNatClampNeg) < x3 then
    fX12_order_54 N g0_all p1 p2 rec2 (0 : Int32) x3 y0
  else
    if (p2 + x3) < 0 ∨ 5228 ≤ ((p2 + x3)).toNatClampNeg then none else
    fX12_order_54 N g0_all p1 p2 rec2 (g0_all ((p2 + x3)).toNatClampNeg) x3 y0
def fX12_order_2 (N : Nat) (g0_all : Nat → Int32) (p1 : Int32) (p2 : Int32) : Nat → Int32 → Option (Int32)
  | 0, _ => none
  | K + 1, x3 =>
    if (7 : Int32) < x3 then
      some ((0 : Int32))
    else
      if p1 < 0 ∨ 5228 ≤ (p1).toNatClampNeg then none else
      if (g0_all (p1).toNatClampNeg) < x3 then
        fX12_order_30 N g0_all p1 p2 (fX12_order_2 N g0_all p1 p2 K) (0 : Int32) x3
      else
        if (p1 + x3) < 0 ∨ 5228 ≤ ((p1 + x3)).toNatClampNeg then none else
        fX12_order_30 N g0_all p1 p2 (fX12_order_2 N g0_all p1 p2 K) (g0_all ((p1 + x3)).toNatClampNeg) x3
def fX12_order (N : Nat) (g0_all : Nat → Int32) (p1 : Int32) (p2 : Int32) : Option (Int32) :=
  fX12_order_2 N g0_all p1 p2 N (1 : Int32)
set_option maxHeartbeats 4000000 in
set_option maxRecDepth 100000 in
theorem mX12_order (l : Launch) (D : zG) (a0 : Nat) (a0_all : Nat) (a0_tape : Nat) (a0_isImage : Nat) (a0_turnWord : Nat) (a0_turnFrom : Nat) (a0_pieceSign : Nat) (a0_pieceFrom : Nat) (a0_runFrom : Nat) (a0_runLong : Nat) (a0_runPiece : Nat) (a0_alike : Nat) (a0_stood : Nat) (sz : Nat)  (v0_taped : Int32) (v0_faultKind : Int32) (v0_faultPlace : Int32) (v0_undos : Int32) (v0_turns : Int32) (v0_pieces : Int32) (v0_signs : Int32) (v0_runs : Int32) (g0_all : Nat → Int32) (p1 : Int32) (p2 : Int32) (N : Nat) (res : Int32) (hf : fX12_order N g0_all p1 p2 = some res) : Met l yX12_order wsX12_order ({ frames := 0, cells := 0, slots := 0, locals := 0 } : Room) (va_Pc [.ref a0, .int p1, .int p2] (zW D sz [(a0, .inr (9, [.ref a0_all, .ref a0_tape, .ref a0_isImage, .int v0_taped, .int v0_faultKind, .int v0_faultPlace, .int v0_undos, .ref a0_turnWord, .ref a0_turnFrom, .int v0_turns, .ref a0_pieceSign, .ref a0_pieceFrom, .int v0_pieces, .int v0_signs, .ref a0_runFrom, .ref a0_runLong, .ref a0_runPiece, .int v0_runs, .ref a0_alike, .ref a0_stood])), (a0_all, .inl (D.2 1, 5228, .inl g0_all))])) (va_Qi (fun r (_ : Unit) => r = res) (fun _ => zB D (va_A [(a0, .inr (9, [.ref a0_all, .ref a0_tape, .ref a0_isImage, .int v0_taped, .int v0_faultKind, .int v0_faultPlace, .int v0_undos, .ref a0_turnWord, .ref a0_turnFrom, .int v0_turns, .ref a0_pieceSign, .ref a0_pieceFrom, .int v0_pieces, .int v0_signs, .ref a0_runFrom, .ref a0_runLong, .ref a0_runPiece, .int v0_runs, .ref a0_alike, .ref a0_stood])), (a0_all, .inl (D.2 1, 5228, .inl g0_all))] sz) [(a0, .inr (9, [.ref a0_all, .ref a0_tape, .ref a0_isImage, .int v0_taped, .int v0_faultKind, .int v0_faultPlace, .int v0_undos, .ref a0_turnWord, .ref a0_turnFrom, .int v0_turns, .ref a0_pieceSign, .ref a0_pieceFrom, .int v0_pieces, .int v0_signs, .ref a0_runFrom, .ref a0_runLong, .ref a0_runPiece, .int v0_runs, .ref a0_alike, .ref a0_stood])), (a0_all, .inl (D.2 1, 5228, .inl g0_all))]) (va_A [(a0, .inr (9, [.ref a0_all, .ref a0_tape, .ref a0_isImage, .int v0_taped, .int v0_faultKind, .int v0_faultPlace, .int v0_undos, .ref a0_turnWord, .ref a0_turnFrom, .int v0_turns, .ref a0_pieceSign, .ref a0_pieceFrom, .int v0_pieces, .int v0_signs, .ref a0_runFrom, .ref a0_runLong, .ref a0_runPiece, .int v0_runs, .ref a0_alike, .ref a0_stood])), (a0_all, .inl (D.2 1, 5228, .inl g0_all))] sz)) 0 0 (va_A [(a0, .inr (9, [.ref a0_all, .ref a0_tape, .ref a0_isImage, .int v0_taped, .int v0_faultKind, .int v0_faultPlace, .int v0_undos, .ref a0_turnWord, .ref a0_turnFrom, .int v0_turns, .ref a0_pieceSign, .ref a0_pieceFrom, .int v0_pieces, .int v0_signs, .ref a0_runFrom, .ref a0_runLong, .ref a0_runPiece, .int v0_runs, .ref a0_alike, .ref a0_stood])), (a0_all, .inl (D.2 1, 5228, .inl g0_all))] sz) := by
  refine Met.ofW (cc := cX12_order) (maxL := 6) (ret := (some .int)) (by decide) rfl ?_
  intro p e s m args below meth c s₁ B hml hv
  obtain ⟨rfl, hsz, hP, hK, hD0⟩ := hv
  have hx := B.exec
  have hb := B.bytes
  have hr := B.returns
  have hts := atoms_spec (ws := wsX12_order) B.pre
  have hown : s.vm.findClass RX12 = some m.cls := findClass_of_methodNamed B.named
  have hlocks := B.notSynchronized
  subst hsz
  have hD := hD0.self (sz := s.heap.size)
  generalize hAe : va_A [(a0, .inr (9, [.ref a0_all, .ref a0_tape, .ref a0_isImage, .int v0_taped, .int v0_faultKind, .int v0_faultPlace, .int v0_undos, .ref a0_turnWord, .ref a0_turnFrom, .int v0_turns, .ref a0_pieceSign, .ref a0_pieceFrom, .int v0_pieces, .int v0_signs, .ref a0_runFrom, .ref a0_runLong, .ref a0_runPiece, .int v0_runs, .ref a0_alike, .ref a0_stood])), (a0_all, .inl (D.2 1, 5228, .inl g0_all))] s.heap.size = A at hD ⊢
  have hA : ∀ q : Nat, s.heap.size ≤ q → A q := fun q h => by rw [← hAe]; exact Or.inr h
  have l7 := zat hts 1 (w := .fieldLink RX12 7 "TurnedWordsModel" "all" "[I") rfl
  have hwX12 : ∀ w ∈ u_ws RX12 TX12 20, w ∈ wsX12_order := fun w h => List.mem_cons_of_mem _ (List.mem_append_right _ h)
  have hl := lv_entry ([.ref a0, .int p1, .int p2]) (n := 6) (Nat.le_of_ble_eq_true rfl)
  rw [lg_entry_eq]
  generalize (lg_sl ([.ref a0, .int p1, .int p2]) ++ List.replicate (6 - (lg_sl ([.ref a0, .int p1, .int p2])).length) Slot.unset).toArray = ls at hl ⊢
  have hl : lv_has ls 6 [(0, .ref a0), (1, .int p1), (2, .int p2)] := hl
  refine zStart (A := A) hP (fun Q0 H locs hQ hP hS => ?_)
  have k54 : ∀ (rec2 : Int32 → Option (Int32)), (∀ (x3 : Int32) (H : Heap) (locs : List Loc) (ls : Array Slot), rec2 x3 = some res → va_P D.1 vwCl [(a0, .inr (9, [.ref a0_all, .ref a0_tape, .ref a0_isImage, .int v0_taped, .int v0_faultKind, .int v0_faultPlace, .int v0_undos, .ref a0_turnWord, .ref a0_turnFrom, .int v0_turns, .ref a0_pieceSign, .ref a0_pieceFrom, .int v0_pieces, .int v0_signs, .ref a0_runFrom, .ref a0_runLong, .ref a0_runPiece, .int v0_runs, .ref a0_alike, .ref a0_stood])), (a0_all, .inl (D.2 1, 5228, .inl g0_all))] H → va_D A [(a0, .inr (9, [.ref a0_all, .ref a0_tape, .ref a0_isImage, .int v0_taped, .int v0_faultKind, .int v0_faultPlace, .int v0_undos, .ref a0_turnWord, .ref a0_turnFrom, .int v0_turns, .ref a0_pieceSign, .ref a0_pieceFrom, .int v0_pieces, .int v0_signs, .ref a0_runFrom, .ref a0_runLong, .ref a0_runPiece, .int v0_runs, .ref a0_alike, .ref a0_stood])), (a0_all, .inl (D.2 1, 5228, .inl g0_all))] → va_S A s.heap H locs → lv_has ls 6 [(0, .ref a0), (1, .int p1), (2, .int p2), (3, .int x3)] → W p l e (headSpec wsX12_order ({ frames := 0, cells := 0, slots := 0, locals := 0 } : Room)).room s m ([.ref a0, .int p1, .int p2] : List Value).toArray below meth c H locs 0 0 Q0 (F0 m 2 ls [])) → ∀ (y0 : Int32) (x3 : Int32) (x4 : Int32) (H : Heap) (locs : List Loc) (ls : Array Slot), fX12_order_54 N g0_all p1 p2 rec2 y0 x3 x4 = some res → va_P D.1 vwCl [(a0, .inr (9, [.ref a0_all, .ref a0_tape, .ref a0_isImage, .int v0_taped, .int v0_faultKind, .int v0_faultPlace, .int v0_undos, .ref a0_turnWord, .ref a0_turnFrom, .int v0_turns, .ref a0_pieceSign, .ref a0_pieceFrom, .int v0_pieces, .int v0_signs, .ref a0_runFrom, .ref a0_runLong, .ref a0_runPiece, .int v0_runs, .ref a0_alike, .ref a0_stood])), (a0_all, .inl (D.2 1, 5228, .inl g0_all))] H → va_D A [(a0, .inr (9, [.ref a0_all, .ref a0_tape, .ref a0_isImage, .int v0_taped, .int v0_faultKind, .int v0_faultPlace, .int v0_undos, .ref a0_turnWord, .ref a0_turnFrom, .int v0_turns, .ref a0_pieceSign, .ref a0_pieceFrom, .int v0_pieces, .int v0_signs, .ref a0_runFrom, .ref a0_runLong, .ref a0_runPiece, .int v0_runs, .ref a0_alike, .ref a0_stood])), (a0_all, .inl (D.2 1, 5228, .inl g0_all))] → va_S A s.heap H locs → lv_has ls 6 [(0, .ref a0), (1, .int p1), (2, .int p2), (3, .int x3), (4, .int x4)] → W p l e (headSpec wsX12_order ({ frames := 0, cells := 0, slots := 0, locals := 0 } : Room)).room s m ([.ref a0, .int p1, .int p2] : List Value).toArray below meth c H locs 0 0 Q0 (F0 m 54 ls [.int y0]) := by
    intro rec2 hrec2 y0 x3 x4 H locs ls hf hP hD hS hl
    unfold fX12_order_54 at hf
    refine lv_istore (lv' := [(5, .int y0), (0, .ref a0), (1, .int p1), (2, .int p2), (3, .int x3), (4, .int x4)]) hx hb dX12_order_54 hl (by decide) rfl (fun ls hl => ?_)
    refine lv_iload hx hb dX12_order_56 (lv_at hl 5 rfl) ?_
    refine lv_iload hx hb dX12_order_58 (lv_at hl 0 rfl) ?_
    refine lv_icmp_eq (tgt := 76) hx hb dX12_order_60 (by decide) (fun c_8 => ?_) (fun c_8 => ?_)
    · replace hf := ip c_8 hf
      refine lv_iinc (v := (x3 + (1 : Int32))) (lv' := [(3, .int (x3 + (1 : Int32))), (5, .int y0), (0, .ref a0), (1, .int p1), (2, .int p2), (4, .int x4)]) hx hb dX12_order_76 hl (k := 4) rfl rfl (by decide) rfl (fun ls hl => ?_)
      refine lv_goto (tgt := 2) hx hb dX12_order_79 (by decide) ?_
      exact hrec2 (x3 + (1 : Int32)) H locs ls hf hP hD hS (lv_sub hl [2, 3, 4, 0] rfl)
    · replace hf := im c_8 hf
      refine lv_iload hx hb dX12_order_63 (lv_at hl 5 rfl) ?_
      refine lv_iload hx hb dX12_order_65 (lv_at hl 0 rfl) ?_
      refine lv_icmp_ge (tgt := 74) hx hb dX12_order_67 (by decide) (fun c_9 => ?_) (fun c_9 => ?_)
      · replace hf := ip c_9 hf
        refine lv_iconst (v := 1) hx hb dX12_order_74 (by decide) ?_
        have he := Option.some.inj hf
        rw [hQ]
        exact W.iret (v := (1 : Int32)) hx hb hr (fun t ht hW => by rw [← he]; exact ⟨⟨(1 : Int32), (), rfl, rfl, by rw [ht]; exact hP, hD⟩, hS.F ht⟩) hS.2.2 dX12_order_75
      · replace hf := im c_9 hf
        refine lv_iconst (v := -1) hx hb dX12_order_70 (by decide) ?_
        refine lv_goto (tgt := 75) hx hb dX12_order_71 (by decide) ?_
        have he := Option.some.inj hf
        rw [hQ]
        exact W.iret (v := (-1 : Int32)) hx hb hr (fun t ht hW => by rw [← he]; exact ⟨⟨(-1 : Int32), (), rfl, rfl, by rw [ht]; exact hP, hD⟩, hS.F ht⟩) hS.2.2 dX12_order_75
  have k30 : ∀ (rec2 : Int32 → Option (Int32)), (∀ (x3 : Int32) (H : Heap) (locs : List Loc) (ls : Array Slot), rec2 x3 = some res → va_P D.1 vwCl [(a0, .inr (9, [.ref a0_all, .ref a0_tape, .ref a0_isImage, .int v0_taped, .int v0_faultKind, .int v0_faultPlace, .int v0_undos, .ref a0_turnWord, .ref a0_turnFrom, .int v0_turns, .ref a0_pieceSign, .ref a0_pieceFrom, .int v0_pieces, .int v0_signs, .ref a0_runFrom, .ref a0_runLong, .ref a0_runPiece, .int v0_runs, .ref a0_alike, .ref a0_stood])), (a0_all, .inl (D.2 1, 5228, .inl g0_all))] H → va_D A [(a0, .inr (9, [.ref a0_all, .ref a0_tape, .ref a0_isImage, .int v0_taped, .int v0_faultKind, .int v0_faultPlace, .int v0_undos, .ref a0_turnWord, .ref a0_turnFrom, .int v0_turns, .ref a0_pieceSign, .ref a0_pieceFrom, .int v0_pieces, .int v0_signs, .ref a0_runFrom, .ref a0_runLong, .ref a0_runPiece, .int v0_runs, .ref a0_alike, .ref a0_stood])), (a0_all, .inl (D.2 1, 5228, .inl g0_all))] → va_S A s.heap H locs → lv_has ls 6 [(0, .ref a0), (1, .int p1), (2, .int p2), (3, .int x3)] → W p l e (headSpec wsX12_order ({ frames := 0, cells := 0, slots := 0, locals := 0 } : Room)).room s m ([.ref a0, .int p1, .int p2] : List Value).toArray below meth c H locs 0 0 Q0 (F0 m 2 ls [])) → ∀ (y0 : Int32) (x3 : Int32) (H : Heap) (locs : List Loc) (ls : Array Slot), fX12_order_30 N g0_all p1 p2 rec2 y0 x3 = some res → va_P D.1 vwCl [(a0, .inr (9, [.ref a0_all, .ref a0_tape, .ref a0_isImage, .int v0_taped, .int v0_faultKind, .int v0_faultPlace, .int v0_undos, .ref a0_turnWord, .ref a0_turnFrom, .int v0_turns, .ref a0_pieceSign, .ref a0_pieceFrom, .int v0_pieces, .int v0_signs, .ref a0_runFrom, .ref a0_runLong, .ref a0_runPiece, .int v0_runs, .ref a0_alike, .ref a0_stood])), (a0_all, .inl (D.2 1, 5228, .inl g0_all))] H → va_D A [(a0, .inr (9, [.ref a0_all, .ref a0_tape, .ref a0_isImage, .int v0_taped, .int v0_faultKind, .int v0_faultPlace, .int v0_undos, .ref a0_turnWord, .ref a0_turnFrom, .int v0_turns, .ref a0_pieceSign, .ref a0_pieceFrom, .int v0_pieces, .int v0_signs, .ref a0_runFrom, .ref a0_runLong, .ref a0_runPiece, .int v0_runs, .ref a0_alike, .ref a0_stood])), (a0_all, .inl (D.2 1, 5228, .inl g0_all))] → va_S A s.heap H locs → lv_has ls 6 [(0, .ref a0), (1, .int p1), (2, .int p2), (3, .int x3)] → W p l e (headSpec wsX12_order ({ frames := 0, cells := 0, slots := 0, locals := 0 } : Room)).room s m ([.ref a0, .int p1, .int p2] : List Value).toArray below meth c H locs 0 0 Q0 (F0 m 30 ls [.int y0]) := by
    intro rec2 hrec2 y0 x3 H locs ls hf hP hD hS hl
    unfold fX12_order_30 at hf
    refine lv_istore (lv' := [(4, .int y0), (0, .ref a0), (1, .int p1), (2, .int p2), (3, .int x3)]) hx hb dX12_order_30 hl (by decide) rfl (fun ls hl => ?_)
    refine lv_iload_n hx hb dX12_order_32 rfl (lv_at hl 4 rfl) ?_
    refine lv_aload_n hx hb dX12_order_33 rfl (lv_at hl 1 rfl) ?_
    refine va_get (D := D.1) (ci := 9) (v := .ref a0_all) (C := RX12) (T := TX12) (N := 20) hx hb hts hwX12 hown hK.1 hP 0 rfl rfl 0 (by decide) l7 (fun _ h9 => h9) rfl dX12_order_34 ?_
    refine lv_iload_n hx hb dX12_order_37 rfl (lv_at hl 3 rfl) ?_
    obtain ⟨h_5, hf⟩ := gd hf
    refine va_iald hx hb hK.1 hP 1 1 rfl rfl h_5 dX12_order_38 ?_
    refine lv_icmp_gt (tgt := 53) hx hb dX12_order_39 (by decide) (fun c_6 => ?_) (fun c_6 => ?_)
    · replace hf := ip c_6 hf
      refine lv_iconst (v := 0) hx hb dX12_order_53 (by decide) ?_
      exact k54 rec2 hrec2 (0 : Int32) x3 y0 H locs ls hf hP hD hS (lv_sub hl [1, 2, 3, 4, 0] rfl)
    · replace hf := im c_6 hf
      refine lv_aload_n hx hb dX12_order_42 rfl (lv_at hl 1 rfl) ?_
      refine va_get (D := D.1) (ci := 9) (v := .ref a0_all) (C := RX12) (T := TX12) (N := 20) hx hb hts hwX12 hown hK.1 hP 0 rfl rfl 0 (by decide) l7 (fun _ h9 => h9) rfl dX12_order_43 ?_
      refine lv_iload_n hx hb dX12_order_46 rfl (lv_at hl 3 rfl) ?_
      refine lv_iload_n hx hb dX12_order_47 rfl (lv_at hl 4 rfl) ?_
      refine lv_iadd hx hb dX12_order_48 ?_
      obtain ⟨h_7, hf⟩ := gd hf
      refine va_iald hx hb hK.1 hP 1 1 rfl rfl h_7 dX12_order_49 ?_
      refine lv_goto (tgt := 54) hx hb dX12_order_50 (by decide) ?_
      exact k54 rec2 hrec2 (g0_all ((p2 + x3)).toNatClampNeg) x3 y0 H locs ls hf hP hD hS (lv_sub hl [1, 2, 3, 4, 0] rfl)
  have k2 : ∀ K : Nat, ∀ (x3 : Int32) (H : Heap) (locs : List Loc) (ls : Array Slot), fX12_order_2 N g0_all p1 p2 K x3 = some res → va_P D.1 vwCl [(a0, .inr (9, [.ref a0_all, .ref a0_tape, .ref a0_isImage, .int v0_taped, .int v0_faultKind, .int v0_faultPlace, .int v0_undos, .ref a0_turnWord, .ref a0_turnFrom, .int v0_turns, .ref a0_pieceSign, .ref a0_pieceFrom, .int v0_pieces, .int v0_signs, .ref a0_runFrom, .ref a0_runLong, .ref a0_runPiece, .int v0_runs, .ref a0_alike, .ref a0_stood])), (a0_all, .inl (D.2 1, 5228, .inl g0_all))] H → va_D A [(a0, .inr (9, [.ref a0_all, .ref a0_tape, .ref a0_isImage, .int v0_taped, .int v0_faultKind, .int v0_faultPlace, .int v0_undos, .ref a0_turnWord, .ref a0_turnFrom, .int v0_turns, .ref a0_pieceSign, .ref a0_pieceFrom, .int v0_pieces, .int v0_signs, .ref a0_runFrom, .ref a0_runLong, .ref a0_runPiece, .int v0_runs, .ref a0_alike, .ref a0_stood])), (a0_all, .inl (D.2 1, 5228, .inl g0_all))] → va_S A s.heap H locs → lv_has ls 6 [(0, .ref a0), (1, .int p1), (2, .int p2), (3, .int x3)] → W p l e (headSpec wsX12_order ({ frames := 0, cells := 0, slots := 0, locals := 0 } : Room)).room s m ([.ref a0, .int p1, .int p2] : List Value).toArray below meth c H locs 0 0 Q0 (F0 m 2 ls []) := by
    intro K
    induction K with
    | zero =>
      intro x3 H locs ls hf
      rw [fX12_order_2] at hf
      cases hf
    | succ K ih =>
      intro x3 H locs ls hf hP hD hS hl
      rw [fX12_order_2] at hf
      refine lv_iload_n hx hb dX12_order_2 rfl (lv_at hl 3 rfl) ?_
      refine lv_bipush (v := 7) hx hb dX12_order_3 (by decide) ?_
      refine lv_icmp_gt (tgt := 82) hx hb dX12_order_5 (by decide) (fun c_1 => ?_) (fun c_1 => ?_)
      · replace hf := ip c_1 hf
        refine lv_iconst (v := 0) hx hb dX12_order_82 (by decide) ?_
        have he := Option.some.inj hf
        rw [hQ]
        exact W.iret (v := (0 : Int32)) hx hb hr (fun t ht hW => by rw [← he]; exact ⟨⟨(0 : Int32), (), rfl, rfl, by rw [ht]; exact hP, hD⟩, hS.F ht⟩) hS.2.2 dX12_order_83
      · replace hf := im c_1 hf
        refine lv_iload_n hx hb dX12_order_8 rfl (lv_at hl 3 rfl) ?_
        refine lv_aload_n hx hb dX12_order_9 rfl (lv_at hl 0 rfl) ?_
        refine va_get (D := D.1) (ci := 9) (v := .ref a0_all) (C := RX12) (T := TX12) (N := 20) hx hb hts hwX12 hown hK.1 hP 0 rfl rfl 0 (by decide) l7 (fun _ h9 => h9) rfl dX12_order_10 ?_
        refine lv_iload_n hx hb dX12_order_13 rfl (lv_at hl 1 rfl) ?_
        obtain ⟨h_2, hf⟩ := gd hf
        refine va_iald hx hb hK.1 hP 1 1 rfl rfl h_2 dX12_order_14 ?_
        refine lv_icmp_gt (tgt := 29) hx hb dX12_order_15 (by decide) (fun c_3 => ?_) (fun c_3 => ?_)
        · replace hf := ip c_3 hf
          refine lv_iconst (v := 0) hx hb dX12_order_29 (by decide) ?_
          exact k30 _ ih (0 : Int32) x3 H locs ls hf hP hD hS hl
        · replace hf := im c_3 hf
          refine lv_aload_n hx hb dX12_order_18 rfl (lv_at hl 0 rfl) ?_
          refine va_get (D := D.1) (ci := 9) (v := .ref a0_all) (C := RX12) (T := TX12) (N := 20) hx hb hts hwX12 hown hK.1 hP 0 rfl rfl 0 (by decide) l7 (fun _ h9 => h9) rfl dX12_order_19 ?_
          refine lv_iload_n hx hb dX12_order_22 rfl (lv_at hl 1 rfl) ?_
          refine lv_iload_n hx hb dX12_order_23 rfl (lv_at hl 3 rfl) ?_
          refine lv_iadd hx hb dX12_order_24 ?_
          obtain ⟨h_4, hf⟩ := gd hf
          refine va_iald hx hb hK.1 hP 1 1 rfl rfl h_4 dX12_order_25 ?_
          refine lv_goto (tgt := 30) hx hb dX12_order_26 (by decide) ?_
          exact k30 _ ih (g0_all ((p1 + x3)).toNatClampNeg) x3 H locs ls hf hP hD hS hl
  unfold fX12_order at hf
  refine lv_iconst (v := 1) hx hb dX12_order_0 (by decide) ?_
  refine lv_istore_n (lv' := [(3, .int (1 : Int32)), (0, .ref a0), (1, .int p1), (2, .int p2)]) hx hb dX12_order_1 rfl hl (by decide) rfl (fun ls hl => ?_)
  exact k2 N (1 : Int32) H locs ls hf hP hD hS (lv_sub hl [1, 2, 3, 0] rfl)
def fX12_numberOf_2 (N : Nat) (g0_all : Nat → Int32) (p1 : Int32) (p2 : Int32) : Nat → Int32 → Option (Int32)
  | 0, _ => none
  | K + 1, x3 =>
    if p1 < 0 ∨ 5228 ≤ (p1).toNatClampNeg then none else
    if (g0_all (p1).toNatClampNeg) ≤ x3 then
      some ((-1 : Int32))
    else
      Option.bind (fX12_wordAt p1 x3) fun r3 =>
      Option.bind (fX12_order N g0_all r3 p2) fun r4 =>
      if r4 = (0 : Int32) then
        some (x3)
      else
        (fX12_numberOf_2 N g0_all p1 p2 K) (x3 + (1 : Int32))
def fX12_numberOf (N : Nat) (g0_all : Nat → Int32) (p1 : Int32) (p2 : Int32) : Option (Int32) :=
  fX12_numberOf_2 N g0_all p1 p2 N (0 : Int32)
set_option maxHeartbeats 4000000 in
set_option maxRecDepth 100000 in
theorem mX12_numberOf (l : Launch) (D : zG) (a0 : Nat) (a0_all : Nat) (a0_tape : Nat) (a0_isImage : Nat) (a0_turnWord : Nat) (a0_turnFrom : Nat) (a0_pieceSign : Nat) (a0_pieceFrom : Nat) (a0_runFrom : Nat) (a0_runLong : Nat) (a0_runPiece : Nat) (a0_alike : Nat) (a0_stood : Nat) (sz : Nat)  (v0_taped : Int32) (v0_faultKind : Int32) (v0_faultPlace : Int32) (v0_undos : Int32) (v0_turns : Int32) (v0_pieces : Int32) (v0_signs : Int32) (v0_runs : Int32) (g0_all : Nat → Int32) (p1 : Int32) (p2 : Int32) (N : Nat) (res : Int32) (hf : fX12_numberOf N g0_all p1 p2 = some res) : Met l yX12_numberOf wsX12_numberOf ({ frames := 1, cells := 0, slots := 0, locals := 25 } : Room) (va_Pc [.ref a0, .int p1, .int p2] (zW D sz [(a0, .inr (9, [.ref a0_all, .ref a0_tape, .ref a0_isImage, .int v0_taped, .int v0_faultKind, .int v0_faultPlace, .int v0_undos, .ref a0_turnWord, .ref a0_turnFrom, .int v0_turns, .ref a0_pieceSign, .ref a0_pieceFrom, .int v0_pieces, .int v0_signs, .ref a0_runFrom, .ref a0_runLong, .ref a0_runPiece, .int v0_runs, .ref a0_alike, .ref a0_stood])), (a0_all, .inl (D.2 1, 5228, .inl g0_all))])) (va_Qi (fun r (_ : Unit) => r = res) (fun _ => zB D (va_A [(a0, .inr (9, [.ref a0_all, .ref a0_tape, .ref a0_isImage, .int v0_taped, .int v0_faultKind, .int v0_faultPlace, .int v0_undos, .ref a0_turnWord, .ref a0_turnFrom, .int v0_turns, .ref a0_pieceSign, .ref a0_pieceFrom, .int v0_pieces, .int v0_signs, .ref a0_runFrom, .ref a0_runLong, .ref a0_runPiece, .int v0_runs, .ref a0_alike, .ref a0_stood])), (a0_all, .inl (D.2 1, 5228, .inl g0_all))] sz) [(a0, .inr (9, [.ref a0_all, .ref a0_tape, .ref a0_isImage, .int v0_taped, .int v0_faultKind, .int v0_faultPlace, .int v0_undos, .ref a0_turnWord, .ref a0_turnFrom, .int v0_turns, .ref a0_pieceSign, .ref a0_pieceFrom, .int v0_pieces, .int v0_signs, .ref a0_runFrom, .ref a0_runLong, .ref a0_runPiece, .int v0_runs, .ref a0_alike, .ref a0_stood])), (a0_all, .inl (D.2 1, 5228, .inl g0_all))]) (va_A [(a0, .inr (9, [.ref a0_all, .ref a0_tape, .ref a0_isImage, .int v0_taped, .int v0_faultKind, .int v0_faultPlace, .int v0_undos, .ref a0_turnWord, .ref a0_turnFrom, .int v0_turns, .ref a0_pieceSign, .ref a0_pieceFrom, .int v0_pieces, .int v0_signs, .ref a0_runFrom, .ref a0_runLong, .ref a0_runPiece, .int v0_runs, .ref a0_alike, .ref a0_stood])), (a0_all, .inl (D.2 1, 5228, .inl g0_all))] sz)) 0 0 (va_A [(a0, .inr (9, [.ref a0_all, .ref a0_tape, .ref a0_isImage, .int v0_taped, .int v0_faultKind, .int v0_faultPlace, .int v0_undos, .ref a0_turnWord, .ref a0_turnFrom, .int v0_turns, .ref a0_pieceSign, .ref a0_pieceFrom, .int v0_pieces, .int v0_signs, .ref a0_runFrom, .ref a0_runLong, .ref a0_runPiece, .int v0_runs, .ref a0_alike, .ref a0_stood])), (a0_all, .inl (D.2 1, 5228, .inl g0_all))] sz) := by
  refine Met.ofW (cc := cX12_numberOf) (maxL := 4) (ret := (some .int)) (by decide) rfl ?_
  intro p e s m args below meth c s₁ B hml hv
  obtain ⟨rfl, hsz, hP, hK, hD0⟩ := hv
  have hx := B.exec
  have hb := B.bytes
  have hr := B.returns
  have hts := atoms_spec (ws := wsX12_numberOf) B.pre
  have hown : s.vm.findClass RX12 = some m.cls := findClass_of_methodNamed B.named
  have hlocks := B.notSynchronized
  subst hsz
  have hD := hD0.self (sz := s.heap.size)
  generalize hAe : va_A [(a0, .inr (9, [.ref a0_all, .ref a0_tape, .ref a0_isImage, .int v0_taped, .int v0_faultKind, .int v0_faultPlace, .int v0_undos, .ref a0_turnWord, .ref a0_turnFrom, .int v0_turns, .ref a0_pieceSign, .ref a0_pieceFrom, .int v0_pieces, .int v0_signs, .ref a0_runFrom, .ref a0_runLong, .ref a0_runPiece, .int v0_runs, .ref a0_alike, .ref a0_stood])), (a0_all, .inl (D.2 1, 5228, .inl g0_all))] s.heap.size = A at hD ⊢
  have hA : ∀ q : Nat, s.heap.size ≤ q → A q := fun q h => by rw [← hAe]; exact Or.inr h
  have l7 := zat hts 1 (w := .fieldLink RX12 7 "TurnedWordsModel" "all" "[I") rfl
  have hwX12 : ∀ w ∈ u_ws RX12 TX12 20, w ∈ wsX12_numberOf := fun w h => List.mem_cons_of_mem _ (List.mem_append_right _ h)
  have hl := lv_entry ([.ref a0, .int p1, .int p2]) (n := 4) (Nat.le_of_ble_eq_true rfl)
  rw [lg_entry_eq]
  generalize (lg_sl ([.ref a0, .int p1, .int p2]) ++ List.replicate (4 - (lg_sl ([.ref a0, .int p1, .int p2])).length) Slot.unset).toArray = ls at hl ⊢
  have hl : lv_has ls 4 [(0, .ref a0), (1, .int p1), (2, .int p2)] := hl
  refine zStart (A := A) hP (fun Q0 H locs hQ hP hS => ?_)
  have k2 : ∀ K : Nat, ∀ (x3 : Int32) (H : Heap) (locs : List Loc) (ls : Array Slot), fX12_numberOf_2 N g0_all p1 p2 K x3 = some res → va_P D.1 vwCl [(a0, .inr (9, [.ref a0_all, .ref a0_tape, .ref a0_isImage, .int v0_taped, .int v0_faultKind, .int v0_faultPlace, .int v0_undos, .ref a0_turnWord, .ref a0_turnFrom, .int v0_turns, .ref a0_pieceSign, .ref a0_pieceFrom, .int v0_pieces, .int v0_signs, .ref a0_runFrom, .ref a0_runLong, .ref a0_runPiece, .int v0_runs, .ref a0_alike, .ref a0_stood])), (a0_all, .inl (D.2 1, 5228, .inl g0_all))] H → va_D A [(a0, .inr (9, [.ref a0_all, .ref a0_tape, .ref a0_isImage, .int v0_taped, .int v0_faultKind, .int v0_faultPlace, .int v0_undos, .ref a0_turnWord, .ref a0_turnFrom, .int v0_turns, .ref a0_pieceSign, .ref a0_pieceFrom, .int v0_pieces, .int v0_signs, .ref a0_runFrom, .ref a0_runLong, .ref a0_runPiece, .int v0_runs, .ref a0_alike, .ref a0_stood])), (a0_all, .inl (D.2 1, 5228, .inl g0_all))] → va_S A s.heap H locs → lv_has ls 4 [(0, .ref a0), (1, .int p1), (2, .int p2), (3, .int x3)] → W p l e (headSpec wsX12_numberOf ({ frames := 1, cells := 0, slots := 0, locals := 25 } : Room)).room s m ([.ref a0, .int p1, .int p2] : List Value).toArray below meth c H locs 0 0 Q0 (F0 m 2 ls []) := by
    intro K
    induction K with
    | zero =>
      intro x3 H locs ls hf
      rw [fX12_numberOf_2] at hf
      cases hf
    | succ K ih =>
      intro x3 H locs ls hf hP hD hS hl
      rw [fX12_numberOf_2] at hf
      refine lv_iload_n hx hb dX12_numberOf_2 rfl (lv_at hl 3 rfl) ?_
      refine lv_aload_n hx hb dX12_numberOf_3 rfl (lv_at hl 0 rfl) ?_
      refine va_get (D := D.1) (ci := 9) (v := .ref a0_all) (C := RX12) (T := TX12) (N := 20) hx hb hts hwX12 hown hK.1 hP 0 rfl rfl 0 (by decide) l7 (fun _ h9 => h9) rfl dX12_numberOf_4 ?_
      refine lv_iload_n hx hb dX12_numberOf_7 rfl (lv_at hl 1 rfl) ?_
      obtain ⟨h_1, hf⟩ := gd hf
      refine va_iald hx hb hK.1 hP 1 1 rfl rfl h_1 dX12_numberOf_8 ?_
      refine lv_icmp_ge (tgt := 33) hx hb dX12_numberOf_9 (by decide) (fun c_2 => ?_) (fun c_2 => ?_)
      · replace hf := ip c_2 hf
        refine lv_iconst (v := -1) hx hb dX12_numberOf_33 (by decide) ?_
        have he := Option.some.inj hf
        rw [hQ]
        exact W.iret (v := (-1 : Int32)) hx hb hr (fun t ht hW => by rw [← he]; exact ⟨⟨(-1 : Int32), (), rfl, rfl, by rw [ht]; exact hP, hD⟩, hS.F ht⟩) hS.2.2 dX12_numberOf_34
      · replace hf := im c_2 hf
        refine lv_aload_n hx hb dX12_numberOf_12 rfl (lv_at hl 0 rfl) ?_
        refine lv_iload_n hx hb dX12_numberOf_13 rfl (lv_at hl 1 rfl) ?_
        refine lv_iload_n hx hb dX12_numberOf_14 rfl (lv_at hl 3 rfl) ?_
        obtain ⟨r3, hr3, hf⟩ := bd hf
        refine zSi (As := [.int p1, .int x3]) (rest := [.ref a0]) (wn := [(a0, .inr (9, [.ref a0_all, .ref a0_tape, .ref a0_isImage, .int v0_taped, .int v0_faultKind, .int v0_faultPlace, .int v0_undos, .ref a0_turnWord, .ref a0_turnFrom, .int v0_turns, .ref a0_pieceSign, .ref a0_pieceFrom, .int v0_pieces, .int v0_signs, .ref a0_runFrom, .ref a0_runLong, .ref a0_runPiece, .int v0_runs, .ref a0_alike, .ref a0_stood])), (a0_all, .inl (D.2 1, 5228, .inl g0_all))]) ⟨hx, hb, hml, hown, hts⟩ (mX12_wordAt l D H.size p1 x3 r3 hr3) (va_cwS 2 hts gX12_numberOf_X12_wordAt rfl rfl rfl (by decide +kernel) ⟨Nat.le_of_ble_eq_true rfl, Nat.le_of_ble_eq_true rfl⟩) hK hP hD hS hA [] [0, 1] [0, 1] rfl (by decide) rfl (by decide) (by decide) rfl (by decide) rfl hl.1 rfl (Nat.le_of_ble_eq_true rfl) dX12_numberOf_15 ⟨Nat.zero_le _, Nat.zero_le _⟩ (fun H locs hP hD hS => ?_)
        refine lv_iload_n hx hb dX12_numberOf_18 rfl (lv_at hl 2 rfl) ?_
        obtain ⟨r4, hr4, hf⟩ := bd hf
        refine zVi (As := [.int r3, .int p2]) (rest := []) (ci := 9) (q0 := 0) (wn := [(a0, .inr (9, [.ref a0_all, .ref a0_tape, .ref a0_isImage, .int v0_taped, .int v0_faultKind, .int v0_faultPlace, .int v0_undos, .ref a0_turnWord, .ref a0_turnFrom, .int v0_turns, .ref a0_pieceSign, .ref a0_pieceFrom, .int v0_pieces, .int v0_signs, .ref a0_runFrom, .ref a0_runLong, .ref a0_runPiece, .int v0_runs, .ref a0_alike, .ref a0_stood])), (a0_all, .inl (D.2 1, 5228, .inl g0_all))]) ⟨hx, hb, hml, hown, hts⟩ (mX12_order l D a0 a0_all a0_tape a0_isImage a0_turnWord a0_turnFrom a0_pieceSign a0_pieceFrom a0_runFrom a0_runLong a0_runPiece a0_alike a0_stood H.size v0_taped v0_faultKind v0_faultPlace v0_undos v0_turns v0_pieces v0_signs v0_runs g0_all r3 p2 N r4 hr4) (cwV 2 hts gX12_numberOf_X12_order rfl rfl rfl (by decide +kernel) ⟨Nat.le_of_ble_eq_true rfl, Nat.le_of_ble_eq_true rfl⟩) hK hP hD hS hA [0, 1] [] [0, 1] rfl (by decide) rfl (by decide) (by decide) rfl (by decide) rfl rfl rfl hl.1 rfl (Nat.le_of_ble_eq_true rfl) dX12_numberOf_19 ⟨Nat.zero_le _, Nat.zero_le _⟩ (fun H locs hP hD hS => ?_)
        refine lv_if_ne (tgt := 27) hx hb dX12_numberOf_22 (by decide) (fun c_5 => ?_) (fun c_5 => ?_)
        · replace hf := im c_5 hf
          refine lv_iinc (v := (x3 + (1 : Int32))) (lv' := [(3, .int (x3 + (1 : Int32))), (0, .ref a0), (1, .int p1), (2, .int p2)]) hx hb dX12_numberOf_27 hl (k := 3) rfl rfl (by decide) rfl (fun ls hl => ?_)
          refine lv_goto (tgt := 2) hx hb dX12_numberOf_30 (by decide) ?_
          exact ih (x3 + (1 : Int32)) H locs ls hf hP hD hS (lv_sub hl [1, 2, 3, 0] rfl)
        · replace hf := ip c_5 hf
          refine lv_iload_n hx hb dX12_numberOf_25 rfl (lv_at hl 3 rfl) ?_
          have he := Option.some.inj hf
          rw [hQ]
          exact W.iret (v := x3) hx hb hr (fun t ht hW => by rw [← he]; exact ⟨⟨x3, (), rfl, rfl, by rw [ht]; exact hP, hD⟩, hS.F ht⟩) hS.2.2 dX12_numberOf_26
  unfold fX12_numberOf at hf
  refine lv_iconst (v := 0) hx hb dX12_numberOf_0 (by decide) ?_
  refine lv_istore_n (lv' := [(3, .int (0 : Int32)), (0, .ref a0), (1, .int p1), (2, .int p2)]) hx hb dX12_numberOf_1 rfl hl (by decide) rfl (fun ls hl => ?_)
  exact k2 N (0 : Int32) H locs ls hf hP hD hS (lv_sub hl [1, 2, 3, 0] rfl)
