set_option maxHeartbeats 4000000 in
set_option maxRecDepth 100000 in
theorem mX11_image_o (l : Launch) (D : zG) (a0 : Nat) (fs : List Value) (sz : Nat) (p1 : Int32) (ho : p1 < 0 ∨ 3 ≤ p1) : Met l yX11_image wsX11_image ({ frames := 0, cells := 0, slots := 0, locals := 0 } : Room) (va_Pc [.ref a0, .int p1] (zW D sz [(a0, .inr (8, fs))])) (va_Qi (fun r (_ : Unit) => r = (0 : Int32) ∧ (r = 0 ∨ r = 1)) (fun _ => zB D (va_A [(a0, .inr (8, fs))] sz) [(a0, .inr (8, fs))]) (va_A [(a0, .inr (8, fs))] sz)) 0 0 (va_A [(a0, .inr (8, fs))] sz) := by
  refine Met.ofW (cc := cX11_image) (maxL := 2) (ret := (some .boolean)) (by decide) rfl ?_
  intro p e s m args below meth c s₁ B hml hv
  obtain ⟨rfl, hsz, hP, hK, hD0⟩ := hv
  have hx := B.exec
  have hb := B.bytes
  have hr := B.returns
  have hlocks := B.notSynchronized
  subst hsz
  have hD := hD0.self (sz := s.heap.size)
  generalize hAe : va_A [(a0, .inr (8, fs))] s.heap.size = A at hD ⊢
  have hl := lv_entry ([.ref a0, .int p1]) (n := 2) (Nat.le_of_ble_eq_true rfl)
  rw [lg_entry_eq]
  generalize (lg_sl ([.ref a0, .int p1]) ++ List.replicate (2 - (lg_sl ([.ref a0, .int p1])).length) Slot.unset).toArray = ls at hl ⊢
  have hl : lv_has ls 2 [(0, .ref a0), (1, .int p1)] := hl
  refine zStart (A := A) hP (fun Q0 H locs hQ hP hS => ?_)
  refine lv_iload_n hx hb dX11_image_0 rfl (lv_at hl 1 rfl) ?_
  refine lv_if_lt (tgt := 9) hx hb dX11_image_1 (by decide) (fun _ => ?_) (fun c1 => ?_)
  · skip
    refine lv_iconst (v := 0) hx hb dX11_image_9 (by decide) ?_
    rw [hQ]
    exact W.zret (v := (0 : Int32)) hx hb hr (znb (Or.inl rfl)) (fun t ht hW => ⟨⟨(0 : Int32), (), rfl, ⟨rfl, Or.inl rfl⟩, by rw [ht]; exact hP, hD⟩, hS.F ht⟩) hS.2.2 dX11_image_10
  · refine lv_iload_n hx hb dX11_image_4 rfl (lv_at hl 1 rfl) ?_
    refine lv_iconst (v := 3) hx hb dX11_image_5 (by decide) ?_
    refine lv_icmp_lt (tgt := 11) hx hb dX11_image_6 (by decide) (fun c2 => absurd c2 (Int32.not_lt.mpr (ho.elim (fun h => absurd h c1) id))) (fun _ => ?_)
    refine lv_iconst (v := 0) hx hb dX11_image_9 (by decide) ?_
    rw [hQ]
    exact W.zret (v := (0 : Int32)) hx hb hr (znb (Or.inl rfl)) (fun t ht hW => ⟨⟨(0 : Int32), (), rfl, ⟨rfl, Or.inl rfl⟩, by rw [ht]; exact hP, hD⟩, hS.F ht⟩) hS.2.2 dX11_image_10
set_option maxHeartbeats 4000000 in
set_option maxRecDepth 100000 in
theorem mX11_again_o (l : Launch) (D : zG) (a0 : Nat) (fs : List Value) (sz : Nat) (p1 : Int32) (ho : p1 < 0 ∨ 3 ≤ p1) : Met l yX11_again wsX11_again ({ frames := 0, cells := 0, slots := 0, locals := 0 } : Room) (va_Pc [.ref a0, .int p1] (zW D sz [(a0, .inr (8, fs))])) (va_Qi (fun r (_ : Unit) => r = (0 : Int32) ∧ (r = 0 ∨ r = 1)) (fun _ => zB D (va_A [(a0, .inr (8, fs))] sz) [(a0, .inr (8, fs))]) (va_A [(a0, .inr (8, fs))] sz)) 0 0 (va_A [(a0, .inr (8, fs))] sz) := by
  refine Met.ofW (cc := cX11_again) (maxL := 2) (ret := (some .boolean)) (by decide) rfl ?_
  intro p e s m args below meth c s₁ B hml hv
  obtain ⟨rfl, hsz, hP, hK, hD0⟩ := hv
  have hx := B.exec
  have hb := B.bytes
  have hr := B.returns
  have hlocks := B.notSynchronized
  subst hsz
  have hD := hD0.self (sz := s.heap.size)
  generalize hAe : va_A [(a0, .inr (8, fs))] s.heap.size = A at hD ⊢
  have hl := lv_entry ([.ref a0, .int p1]) (n := 2) (Nat.le_of_ble_eq_true rfl)
  rw [lg_entry_eq]
  generalize (lg_sl ([.ref a0, .int p1]) ++ List.replicate (2 - (lg_sl ([.ref a0, .int p1])).length) Slot.unset).toArray = ls at hl ⊢
  have hl : lv_has ls 2 [(0, .ref a0), (1, .int p1)] := hl
  refine zStart (A := A) hP (fun Q0 H locs hQ hP hS => ?_)
  refine lv_iload_n hx hb dX11_again_0 rfl (lv_at hl 1 rfl) ?_
  refine lv_if_lt (tgt := 18) hx hb dX11_again_1 (by decide) (fun _ => ?_) (fun c1 => ?_)
  · skip
    refine lv_iconst (v := 0) hx hb dX11_again_18 (by decide) ?_
    rw [hQ]
    exact W.zret (v := (0 : Int32)) hx hb hr (znb (Or.inl rfl)) (fun t ht hW => ⟨⟨(0 : Int32), (), rfl, ⟨rfl, Or.inl rfl⟩, by rw [ht]; exact hP, hD⟩, hS.F ht⟩) hS.2.2 dX11_again_19
  · refine lv_iload_n hx hb dX11_again_4 rfl (lv_at hl 1 rfl) ?_
    refine lv_iconst (v := 3) hx hb dX11_again_5 (by decide) ?_
    refine lv_icmp_ge (tgt := 18) hx hb dX11_again_6 (by decide) (fun _ => ?_) (fun c2 => absurd (ho.elim (fun h => absurd h c1) id) c2)
    refine lv_iconst (v := 0) hx hb dX11_again_18 (by decide) ?_
    rw [hQ]
    exact W.zret (v := (0 : Int32)) hx hb hr (znb (Or.inl rfl)) (fun t ht hW => ⟨⟨(0 : Int32), (), rfl, ⟨rfl, Or.inl rfl⟩, by rw [ht]; exact hP, hD⟩, hS.F ht⟩) hS.2.2 dX11_again_19
theorem isIn_o {p1 : Int32} (ho : p1 < 0 ∨ 3 ≤ p1) : fX12_isIn p1 (0 : Int32) (2 : Int32) = some 0 := by
  unfold fX12_isIn
  rcases ho with h | h
  · rw [if_pos h]
  · by_cases h0 : p1 < 0
    · rw [if_pos h0]
    · rw [if_neg h0, if_pos (Int32.lt_of_lt_of_le (show (2 : Int32) < 3 by decide) h)]
theorem zsG {G : Nat → Nat → Int32} (i : Nat) : sG G i (G i) = G := by
  funext j
  unfold sG
  by_cases hj : j = i
  · rw [if_pos hj, hj]
  · rw [if_neg hj]
theorem zsI0 {V : Nat → Int32} (i : Nat) : sI V i (V i) = V := by
  funext j
  unfold sI
  by_cases hj : j = i
  · rw [if_pos hj, hj]
  · rw [if_neg hj]
theorem Lw_image_o {N : Nat} {V : Nat → Int32} {GI : Nat → Nat → Int32} {GL : Nat → Nat → Int64} {pres : Nat → Bool} {MV : Nat → Int32} {MG : Nat → Nat → Int32} (p1 : Int32) (hN : 1000 ≤ N) (hI : Inv V GI GL pres MV MG) (ho : p1 < 0 ∨ 3 ≤ p1) : ∃ (res : Int32) (resM : Int32 × (Nat → Int32) × (Nat → Int32)), res = 0 ∧ fX12_image N (MV 0) (MV 1) (MV 2) (MG 0) (MG 1) (MG 2) p1 = some resM ∧ res = resM.1 ∧ Inv V GI GL pres MV (sG (sG MG 0 resM.2.1) 2 resM.2.2) := by
  refine ⟨0, (0, MG 0, MG 2), rfl, ?_, rfl, ?_⟩
  · unfold fX12_image
    rw [isIn_o ho, Option.bind_some, if_pos rfl]
  · show Inv V GI GL pres MV (sG (sG MG 0 (MG 0)) 2 (MG 2))
    rw [zsG 0, zsG 2]
    exact hI
theorem Lw_again_o {N : Nat} {V : Nat → Int32} {GI : Nat → Nat → Int32} {GL : Nat → Nat → Int64} {pres : Nat → Bool} {MV : Nat → Int32} {MG : Nat → Nat → Int32} (p1 : Int32) (hN : 1000 ≤ N) (hI : Inv V GI GL pres MV MG) (ho : p1 < 0 ∨ 3 ≤ p1) : ∃ (res : Int32) (resM : Int32 × Int32 × Int32 × Int32 × Int32 × (Nat → Int32) × (Nat → Int32)), res = 0 ∧ fX12_again N (MV 0) (MV 1) (MV 2) (MV 3) (MG 0) (MG 1) (MG 2) p1 = some resM ∧ res = resM.1 ∧ Inv V GI GL pres (sI (sI (sI (sI MV 0 resM.2.1) 1 resM.2.2.1) 2 resM.2.2.2.1) 3 resM.2.2.2.2.1) (sG (sG MG 0 resM.2.2.2.2.2.1) 1 resM.2.2.2.2.2.2) := by
  refine ⟨0, (0, MV 0, MV 1, MV 2, MV 3, MG 0, MG 1), rfl, ?_, rfl, ?_⟩
  · unfold fX12_again
    rw [isIn_o ho, Option.bind_some, if_pos rfl]
  · show Inv V GI GL pres (sI (sI (sI (sI MV 0 (MV 0)) 1 (MV 1)) 2 (MV 2)) 3 (MV 3)) (sG (sG MG 0 (MG 0)) 1 (MG 1))
    rw [zsG 0, zsG 1, zsI0 0, zsI0 1, zsI0 2, zsI0 3]
    exact hI
