def fX1_layBetween_43 (N : Nat) (v1_size : Int32) (g1_signs : Nat → Int32) (p2 : Int32) (p3 : Int32) (rec5 : Int32 → Int32 → Int32 → Int32 → Int32 → (Nat → Int32) → (Nat → Int32) → (Nat → Int32) → (Nat → Int32) → (Nat → Int64) → Option (Int32 × Int32 × Int32 × Int32 × (Nat → Int32) × (Nat → Int32) × (Nat → Int32) × (Nat → Int32) × (Nat → Int64))) (x4 : Int32) (x5 : Int32) (v0_size : Int32) (v0_runs : Int32) (v0_pieces : Int32) (v0_inRun : Int32) (g0_signs : Nat → Int32) (g0_starts : Nat → Int32) (g0_lengths : Nat → Int32) (g0_piecesOfRuns : Nat → Int32) (g0_heads : Nat → Int64) : Option (Int32 × Int32 × Int32 × Int32 × (Nat → Int32) × (Nat → Int32) × (Nat → Int32) × (Nat → Int32) × (Nat → Int64)) :=
  Option.bind (fX1_laySign v0_size v0_runs v0_pieces v0_inRun g0_signs g0_starts g0_lengths g0_piecesOfRuns g0_heads x5) fun r7 =>
  rec5 (x4 + (1 : Int32)) r7.1 r7.2.1 v0_pieces r7.2.2.1 r7.2.2.2.1 r7.2.2.2.2.1 r7.2.2.2.2.2.1 r7.2.2.2.2.2.2.1 r7.2.2.2.2.2.2.2
def fX1_layBetween_5 (N : Nat) (v1_size : Int32) (g1_signs : Nat → Int32) (p2 : Int32) (p3 : Int32) : Nat → Int32 → Int32 → Int32 → Int32 → Int32 → (Nat → Int32) → (Nat → Int32) → (Nat → Int32) → (Nat → Int32) → (Nat → Int64) → Option (Int32 × Int32 × Int32 × Int32 × (Nat → Int32) × (Nat → Int32) × (Nat → Int32) × (Nat → Int32) × (Nat → Int64))
  | 0, _, _, _, _, _, _, _, _, _, _ => none
  | K + 1, x4, v0_size, v0_runs, v0_pieces, v0_inRun, g0_signs, g0_starts, g0_lengths, g0_piecesOfRuns, g0_heads =>
    if p3 ≤ x4 then
      some (v0_size, v0_runs, v0_pieces, v0_inRun, g0_signs, g0_starts, g0_lengths, g0_piecesOfRuns, g0_heads)
    else
      Option.bind (fX5_at v1_size g1_signs x4) fun r2 =>
      if r2 = (42 : Int32) then
        (fX1_layBetween_5 N v1_size g1_signs p2 p3 K) (x4 + (1 : Int32)) v0_size v0_runs v0_pieces v0_inRun g0_signs g0_starts g0_lengths g0_piecesOfRuns g0_heads
      else
        Option.bind (fX5_at v1_size g1_signs (x4 - (1 : Int32))) fun r4 =>
        if r4 = (42 : Int32) then
          Option.bind (fX1_beginPiece v0_pieces v0_inRun) fun r6 =>
          fX1_layBetween_43 N v1_size g1_signs p2 p3 (fX1_layBetween_5 N v1_size g1_signs p2 p3 K) x4 r2 v0_size v0_runs r6.1 r6.2 g0_signs g0_starts g0_lengths g0_piecesOfRuns g0_heads
        else
          fX1_layBetween_43 N v1_size g1_signs p2 p3 (fX1_layBetween_5 N v1_size g1_signs p2 p3 K) x4 r2 v0_size v0_runs v0_pieces v0_inRun g0_signs g0_starts g0_lengths g0_piecesOfRuns g0_heads
def fX1_layBetween (N : Nat) (v0_size : Int32) (v0_runs : Int32) (v0_pieces : Int32) (v0_inRun : Int32) (g0_signs : Nat → Int32) (g0_starts : Nat → Int32) (g0_lengths : Nat → Int32) (g0_piecesOfRuns : Nat → Int32) (g0_heads : Nat → Int64) (v1_size : Int32) (g1_signs : Nat → Int32) (p2 : Int32) (p3 : Int32) : Option (Int32 × Int32 × Int32 × Int32 × (Nat → Int32) × (Nat → Int32) × (Nat → Int32) × (Nat → Int32) × (Nat → Int64)) :=
  fX1_layBetween_5 N v1_size g1_signs p2 p3 N (p2 + (1 : Int32)) v0_size v0_runs v0_pieces v0_inRun g0_signs g0_starts g0_lengths g0_piecesOfRuns g0_heads
set_option maxHeartbeats 4000000 in
set_option maxRecDepth 100000 in
theorem mX1_layBetween (l : Launch) (D : zG) (a0 : Nat) (a0_signs : Nat) (a0_starts : Nat) (a0_lengths : Nat) (a0_piecesOfRuns : Nat) (a0_heads : Nat) (a1 : Nat) (a1_signs : Nat) (sz : Nat)  (v0_size : Int32) (v0_runs : Int32) (v0_pieces : Int32) (v0_inRun : Int32) (g0_signs : Nat → Int32) (g0_starts : Nat → Int32) (g0_lengths : Nat → Int32) (g0_piecesOfRuns : Nat → Int32) (g0_heads : Nat → Int64) (v1_size : Int32) (g1_signs : Nat → Int32) (p2 : Int32) (p3 : Int32) (N : Nat) (res : Int32 × Int32 × Int32 × Int32 × (Nat → Int32) × (Nat → Int32) × (Nat → Int32) × (Nat → Int32) × (Nat → Int64)) (hf : fX1_layBetween N v0_size v0_runs v0_pieces v0_inRun g0_signs g0_starts g0_lengths g0_piecesOfRuns g0_heads v1_size g1_signs p2 p3 = some res) : Met l yX1_layBetween wsX1_layBetween ({ frames := 3, cells := 0, slots := 0, locals := 65 } : Room) (va_Pc [.ref a0, .ref a1, .int p2, .int p3] (zW D sz [(a0, .inr (0, [.ref a0_signs, .ref a0_starts, .ref a0_lengths, .ref a0_piecesOfRuns, .ref a0_heads, .int v0_size, .int v0_runs, .int v0_pieces, .int v0_inRun])), (a0_signs, .inl (D.2 1, 13, .inl g0_signs)), (a0_starts, .inl (D.2 1, 13, .inl g0_starts)), (a0_lengths, .inl (D.2 1, 13, .inl g0_lengths)), (a0_piecesOfRuns, .inl (D.2 1, 13, .inl g0_piecesOfRuns)), (a0_heads, .inl (D.2 2, 13, .inr (.inl g0_heads))), (a1, .inr (4, [.ref a1_signs, .int v1_size])), (a1_signs, .inl (D.2 1, 12, .inl g1_signs))])) (va_Qv (fun (_ : Unit) => True) (fun _ => zB D (va_A [(a0, .inr (0, [.ref a0_signs, .ref a0_starts, .ref a0_lengths, .ref a0_piecesOfRuns, .ref a0_heads, .int v0_size, .int v0_runs, .int v0_pieces, .int v0_inRun])), (a0_signs, .inl (D.2 1, 13, .inl g0_signs)), (a0_starts, .inl (D.2 1, 13, .inl g0_starts)), (a0_lengths, .inl (D.2 1, 13, .inl g0_lengths)), (a0_piecesOfRuns, .inl (D.2 1, 13, .inl g0_piecesOfRuns)), (a0_heads, .inl (D.2 2, 13, .inr (.inl g0_heads))), (a1, .inr (4, [.ref a1_signs, .int v1_size])), (a1_signs, .inl (D.2 1, 12, .inl g1_signs))] sz) [(a0, .inr (0, [.ref a0_signs, .ref a0_starts, .ref a0_lengths, .ref a0_piecesOfRuns, .ref a0_heads, .int res.1, .int res.2.1, .int res.2.2.1, .int res.2.2.2.1])), (a0_signs, .inl (D.2 1, 13, .inl res.2.2.2.2.1)), (a0_starts, .inl (D.2 1, 13, .inl res.2.2.2.2.2.1)), (a0_lengths, .inl (D.2 1, 13, .inl res.2.2.2.2.2.2.1)), (a0_piecesOfRuns, .inl (D.2 1, 13, .inl res.2.2.2.2.2.2.2.1)), (a0_heads, .inl (D.2 2, 13, .inr (.inl res.2.2.2.2.2.2.2.2))), (a1, .inr (4, [.ref a1_signs, .int v1_size])), (a1_signs, .inl (D.2 1, 12, .inl g1_signs))]) (va_A [(a0, .inr (0, [.ref a0_signs, .ref a0_starts, .ref a0_lengths, .ref a0_piecesOfRuns, .ref a0_heads, .int v0_size, .int v0_runs, .int v0_pieces, .int v0_inRun])), (a0_signs, .inl (D.2 1, 13, .inl g0_signs)), (a0_starts, .inl (D.2 1, 13, .inl g0_starts)), (a0_lengths, .inl (D.2 1, 13, .inl g0_lengths)), (a0_piecesOfRuns, .inl (D.2 1, 13, .inl g0_piecesOfRuns)), (a0_heads, .inl (D.2 2, 13, .inr (.inl g0_heads))), (a1, .inr (4, [.ref a1_signs, .int v1_size])), (a1_signs, .inl (D.2 1, 12, .inl g1_signs))] sz)) 0 0 (va_A [(a0, .inr (0, [.ref a0_signs, .ref a0_starts, .ref a0_lengths, .ref a0_piecesOfRuns, .ref a0_heads, .int v0_size, .int v0_runs, .int v0_pieces, .int v0_inRun])), (a0_signs, .inl (D.2 1, 13, .inl g0_signs)), (a0_starts, .inl (D.2 1, 13, .inl g0_starts)), (a0_lengths, .inl (D.2 1, 13, .inl g0_lengths)), (a0_piecesOfRuns, .inl (D.2 1, 13, .inl g0_piecesOfRuns)), (a0_heads, .inl (D.2 2, 13, .inr (.inl g0_heads))), (a1, .inr (4, [.ref a1_signs, .int v1_size])), (a1_signs, .inl (D.2 1, 12, .inl g1_signs))] sz) := by
  refine Met.ofW (cc := cX1_layBetween) (maxL := 6) (ret := none) (by decide) rfl ?_
  intro p e s m args below meth c s₁ B hml hv
  obtain ⟨rfl, hsz, hP, hK, hD0⟩ := hv
  have hx := B.exec
  have hb := B.bytes
  have hr := B.returns
  have hts := atoms_spec (ws := wsX1_layBetween) B.pre
  have hown : s.vm.findClass RX1 = some m.cls := findClass_of_methodNamed B.named
  have hlocks := B.notSynchronized
  subst hsz
  have hD := hD0.self (sz := s.heap.size)
  generalize hAe : va_A [(a0, .inr (0, [.ref a0_signs, .ref a0_starts, .ref a0_lengths, .ref a0_piecesOfRuns, .ref a0_heads, .int v0_size, .int v0_runs, .int v0_pieces, .int v0_inRun])), (a0_signs, .inl (D.2 1, 13, .inl g0_signs)), (a0_starts, .inl (D.2 1, 13, .inl g0_starts)), (a0_lengths, .inl (D.2 1, 13, .inl g0_lengths)), (a0_piecesOfRuns, .inl (D.2 1, 13, .inl g0_piecesOfRuns)), (a0_heads, .inl (D.2 2, 13, .inr (.inl g0_heads))), (a1, .inr (4, [.ref a1_signs, .int v1_size])), (a1_signs, .inl (D.2 1, 12, .inl g1_signs))] s.heap.size = A at hD ⊢
  have hA : ∀ q : Nat, s.heap.size ≤ q → A q := fun q h => by rw [← hAe]; exact Or.inr h
  have hl := lv_entry ([.ref a0, .ref a1, .int p2, .int p3]) (n := 6) (Nat.le_of_ble_eq_true rfl)
  rw [lg_entry_eq]
  generalize (lg_sl ([.ref a0, .ref a1, .int p2, .int p3]) ++ List.replicate (6 - (lg_sl ([.ref a0, .ref a1, .int p2, .int p3])).length) Slot.unset).toArray = ls at hl ⊢
  have hl : lv_has ls 6 [(0, .ref a0), (1, .ref a1), (2, .int p2), (3, .int p3)] := hl
  refine zStart (A := A) hP (fun Q0 H locs hQ hP hS => ?_)
  have k43 : ∀ (rec5 : Int32 → Int32 → Int32 → Int32 → Int32 → (Nat → Int32) → (Nat → Int32) → (Nat → Int32) → (Nat → Int32) → (Nat → Int64) → Option (Int32 × Int32 × Int32 × Int32 × (Nat → Int32) × (Nat → Int32) × (Nat → Int32) × (Nat → Int32) × (Nat → Int64))), (∀ (x4 : Int32) (v0_size : Int32) (v0_runs : Int32) (v0_pieces : Int32) (v0_inRun : Int32) (g0_signs : Nat → Int32) (g0_starts : Nat → Int32) (g0_lengths : Nat → Int32) (g0_piecesOfRuns : Nat → Int32) (g0_heads : Nat → Int64) (H : Heap) (locs : List Loc) (ls : Array Slot), rec5 x4 v0_size v0_runs v0_pieces v0_inRun g0_signs g0_starts g0_lengths g0_piecesOfRuns g0_heads = some res → va_P D.1 vwCl [(a0, .inr (0, [.ref a0_signs, .ref a0_starts, .ref a0_lengths, .ref a0_piecesOfRuns, .ref a0_heads, .int v0_size, .int v0_runs, .int v0_pieces, .int v0_inRun])), (a0_signs, .inl (D.2 1, 13, .inl g0_signs)), (a0_starts, .inl (D.2 1, 13, .inl g0_starts)), (a0_lengths, .inl (D.2 1, 13, .inl g0_lengths)), (a0_piecesOfRuns, .inl (D.2 1, 13, .inl g0_piecesOfRuns)), (a0_heads, .inl (D.2 2, 13, .inr (.inl g0_heads))), (a1, .inr (4, [.ref a1_signs, .int v1_size])), (a1_signs, .inl (D.2 1, 12, .inl g1_signs))] H → va_D A [(a0, .inr (0, [.ref a0_signs, .ref a0_starts, .ref a0_lengths, .ref a0_piecesOfRuns, .ref a0_heads, .int v0_size, .int v0_runs, .int v0_pieces, .int v0_inRun])), (a0_signs, .inl (D.2 1, 13, .inl g0_signs)), (a0_starts, .inl (D.2 1, 13, .inl g0_starts)), (a0_lengths, .inl (D.2 1, 13, .inl g0_lengths)), (a0_piecesOfRuns, .inl (D.2 1, 13, .inl g0_piecesOfRuns)), (a0_heads, .inl (D.2 2, 13, .inr (.inl g0_heads))), (a1, .inr (4, [.ref a1_signs, .int v1_size])), (a1_signs, .inl (D.2 1, 12, .inl g1_signs))] → va_S A s.heap H locs → lv_has ls 6 [(0, .ref a0), (1, .ref a1), (3, .int p3), (4, .int x4)] → W p l e (headSpec wsX1_layBetween ({ frames := 3, cells := 0, slots := 0, locals := 65 } : Room)).room s m ([.ref a0, .ref a1, .int p2, .int p3] : List Value).toArray below meth c H locs 0 0 Q0 (F0 m 5 ls [])) → ∀ (x4 : Int32) (x5 : Int32) (v0_size : Int32) (v0_runs : Int32) (v0_pieces : Int32) (v0_inRun : Int32) (g0_signs : Nat → Int32) (g0_starts : Nat → Int32) (g0_lengths : Nat → Int32) (g0_piecesOfRuns : Nat → Int32) (g0_heads : Nat → Int64) (H : Heap) (locs : List Loc) (ls : Array Slot), fX1_layBetween_43 N v1_size g1_signs p2 p3 rec5 x4 x5 v0_size v0_runs v0_pieces v0_inRun g0_signs g0_starts g0_lengths g0_piecesOfRuns g0_heads = some res → va_P D.1 vwCl [(a0, .inr (0, [.ref a0_signs, .ref a0_starts, .ref a0_lengths, .ref a0_piecesOfRuns, .ref a0_heads, .int v0_size, .int v0_runs, .int v0_pieces, .int v0_inRun])), (a0_signs, .inl (D.2 1, 13, .inl g0_signs)), (a0_starts, .inl (D.2 1, 13, .inl g0_starts)), (a0_lengths, .inl (D.2 1, 13, .inl g0_lengths)), (a0_piecesOfRuns, .inl (D.2 1, 13, .inl g0_piecesOfRuns)), (a0_heads, .inl (D.2 2, 13, .inr (.inl g0_heads))), (a1, .inr (4, [.ref a1_signs, .int v1_size])), (a1_signs, .inl (D.2 1, 12, .inl g1_signs))] H → va_D A [(a0, .inr (0, [.ref a0_signs, .ref a0_starts, .ref a0_lengths, .ref a0_piecesOfRuns, .ref a0_heads, .int v0_size, .int v0_runs, .int v0_pieces, .int v0_inRun])), (a0_signs, .inl (D.2 1, 13, .inl g0_signs)), (a0_starts, .inl (D.2 1, 13, .inl g0_starts)), (a0_lengths, .inl (D.2 1, 13, .inl g0_lengths)), (a0_piecesOfRuns, .inl (D.2 1, 13, .inl g0_piecesOfRuns)), (a0_heads, .inl (D.2 2, 13, .inr (.inl g0_heads))), (a1, .inr (4, [.ref a1_signs, .int v1_size])), (a1_signs, .inl (D.2 1, 12, .inl g1_signs))] → va_S A s.heap H locs → lv_has ls 6 [(0, .ref a0), (1, .ref a1), (3, .int p3), (4, .int x4), (5, .int x5)] → W p l e (headSpec wsX1_layBetween ({ frames := 3, cells := 0, slots := 0, locals := 65 } : Room)).room s m ([.ref a0, .ref a1, .int p2, .int p3] : List Value).toArray below meth c H locs 0 0 Q0 (F0 m 43 ls []) := by
    intro rec5 hrec5 x4 x5 v0_size v0_runs v0_pieces v0_inRun g0_signs g0_starts g0_lengths g0_piecesOfRuns g0_heads H locs ls hf hP hD hS hl
    unfold fX1_layBetween_43 at hf
    refine lv_aload_n hx hb dX1_layBetween_43 rfl (lv_at hl 0 rfl) ?_
    refine lv_iload hx hb dX1_layBetween_44 (lv_at hl 4 rfl) ?_
    obtain ⟨r7, hr7, hf⟩ := bd hf
    refine zVv (As := [.int x5]) (rest := []) (ci := 0) (q0 := 0) (wn := [(a0, .inr (0, [.ref a0_signs, .ref a0_starts, .ref a0_lengths, .ref a0_piecesOfRuns, .ref a0_heads, .int r7.1, .int r7.2.1, .int v0_pieces, .int r7.2.2.1])), (a0_signs, .inl (D.2 1, 13, .inl r7.2.2.2.1)), (a0_starts, .inl (D.2 1, 13, .inl r7.2.2.2.2.1)), (a0_lengths, .inl (D.2 1, 13, .inl r7.2.2.2.2.2.1)), (a0_piecesOfRuns, .inl (D.2 1, 13, .inl r7.2.2.2.2.2.2.1)), (a0_heads, .inl (D.2 2, 13, .inr (.inl r7.2.2.2.2.2.2.2))), (a1, .inr (4, [.ref a1_signs, .int v1_size])), (a1_signs, .inl (D.2 1, 12, .inl g1_signs))]) ⟨hx, hb, hml, hown, hts⟩ (mX1_laySign l D a0 a0_signs a0_starts a0_lengths a0_piecesOfRuns a0_heads H.size v0_size v0_runs v0_pieces v0_inRun g0_signs g0_starts g0_lengths g0_piecesOfRuns g0_heads x5 r7 hr7) (cwV 1 hts gX1_layBetween_X1_laySign rfl rfl rfl (by decide +kernel) ⟨Nat.le_of_ble_eq_true rfl, Nat.le_of_ble_eq_true rfl⟩) hK hP hD hS hA [0, 1, 2, 3, 4, 5] [6, 7] [2, 3, 4, 5, 6, 7, 0, 1] rfl (by decide) rfl (by decide) (by decide) rfl (by decide) rfl rfl rfl hl.1 rfl (Nat.le_of_ble_eq_true rfl) dX1_layBetween_46 ⟨Nat.zero_le _, Nat.zero_le _⟩ (fun H locs hP hD hS => ?_)
    refine lv_iinc (v := (x4 + (1 : Int32))) (lv' := [(4, .int (x4 + (1 : Int32))), (0, .ref a0), (1, .ref a1), (3, .int p3), (5, .int x5)]) hx hb dX1_layBetween_49 hl (k := 3) rfl rfl (by decide) rfl (fun ls hl => ?_)
    refine lv_goto (tgt := 5) hx hb dX1_layBetween_52 (by decide) ?_
    exact hrec5 (x4 + (1 : Int32)) r7.1 r7.2.1 v0_pieces r7.2.2.1 r7.2.2.2.1 r7.2.2.2.2.1 r7.2.2.2.2.2.1 r7.2.2.2.2.2.2.1 r7.2.2.2.2.2.2.2 H locs ls hf hP hD hS (lv_sub hl [1, 2, 3, 0] rfl)
  have k5 : ∀ K : Nat, ∀ (x4 : Int32) (v0_size : Int32) (v0_runs : Int32) (v0_pieces : Int32) (v0_inRun : Int32) (g0_signs : Nat → Int32) (g0_starts : Nat → Int32) (g0_lengths : Nat → Int32) (g0_piecesOfRuns : Nat → Int32) (g0_heads : Nat → Int64) (H : Heap) (locs : List Loc) (ls : Array Slot), fX1_layBetween_5 N v1_size g1_signs p2 p3 K x4 v0_size v0_runs v0_pieces v0_inRun g0_signs g0_starts g0_lengths g0_piecesOfRuns g0_heads = some res → va_P D.1 vwCl [(a0, .inr (0, [.ref a0_signs, .ref a0_starts, .ref a0_lengths, .ref a0_piecesOfRuns, .ref a0_heads, .int v0_size, .int v0_runs, .int v0_pieces, .int v0_inRun])), (a0_signs, .inl (D.2 1, 13, .inl g0_signs)), (a0_starts, .inl (D.2 1, 13, .inl g0_starts)), (a0_lengths, .inl (D.2 1, 13, .inl g0_lengths)), (a0_piecesOfRuns, .inl (D.2 1, 13, .inl g0_piecesOfRuns)), (a0_heads, .inl (D.2 2, 13, .inr (.inl g0_heads))), (a1, .inr (4, [.ref a1_signs, .int v1_size])), (a1_signs, .inl (D.2 1, 12, .inl g1_signs))] H → va_D A [(a0, .inr (0, [.ref a0_signs, .ref a0_starts, .ref a0_lengths, .ref a0_piecesOfRuns, .ref a0_heads, .int v0_size, .int v0_runs, .int v0_pieces, .int v0_inRun])), (a0_signs, .inl (D.2 1, 13, .inl g0_signs)), (a0_starts, .inl (D.2 1, 13, .inl g0_starts)), (a0_lengths, .inl (D.2 1, 13, .inl g0_lengths)), (a0_piecesOfRuns, .inl (D.2 1, 13, .inl g0_piecesOfRuns)), (a0_heads, .inl (D.2 2, 13, .inr (.inl g0_heads))), (a1, .inr (4, [.ref a1_signs, .int v1_size])), (a1_signs, .inl (D.2 1, 12, .inl g1_signs))] → va_S A s.heap H locs → lv_has ls 6 [(0, .ref a0), (1, .ref a1), (3, .int p3), (4, .int x4)] → W p l e (headSpec wsX1_layBetween ({ frames := 3, cells := 0, slots := 0, locals := 65 } : Room)).room s m ([.ref a0, .ref a1, .int p2, .int p3] : List Value).toArray below meth c H locs 0 0 Q0 (F0 m 5 ls []) := by
    intro K
    induction K with
    | zero =>
      intro x4 v0_size v0_runs v0_pieces v0_inRun g0_signs g0_starts g0_lengths g0_piecesOfRuns g0_heads H locs ls hf
      rw [fX1_layBetween_5] at hf
      cases hf
    | succ K ih =>
      intro x4 v0_size v0_runs v0_pieces v0_inRun g0_signs g0_starts g0_lengths g0_piecesOfRuns g0_heads H locs ls hf hP hD hS hl
      rw [fX1_layBetween_5] at hf
      refine lv_iload hx hb dX1_layBetween_5 (lv_at hl 3 rfl) ?_
      refine lv_iload_n hx hb dX1_layBetween_7 rfl (lv_at hl 2 rfl) ?_
      refine lv_icmp_ge (tgt := 55) hx hb dX1_layBetween_8 (by decide) (fun c_1 => ?_) (fun c_1 => ?_)
      · replace hf := ip c_1 hf
        have he := Option.some.inj hf
        rw [hQ]
        exact W.vret hx hb hr (fun t ht hW => by rw [← he]; exact ⟨⟨(), rfl, trivial, by rw [ht]; exact hP, hD⟩, hS.F ht⟩) hS.2.2 dX1_layBetween_55
      · replace hf := im c_1 hf
        refine lv_aload_n hx hb dX1_layBetween_11 rfl (lv_at hl 1 rfl) ?_
        refine lv_iload hx hb dX1_layBetween_12 (lv_at hl 3 rfl) ?_
        obtain ⟨r2, hr2, hf⟩ := bd hf
        refine zVi (As := [.int x4]) (rest := []) (ci := 4) (q0 := 0) (wn := [(a0, .inr (0, [.ref a0_signs, .ref a0_starts, .ref a0_lengths, .ref a0_piecesOfRuns, .ref a0_heads, .int v0_size, .int v0_runs, .int v0_pieces, .int v0_inRun])), (a0_signs, .inl (D.2 1, 13, .inl g0_signs)), (a0_starts, .inl (D.2 1, 13, .inl g0_starts)), (a0_lengths, .inl (D.2 1, 13, .inl g0_lengths)), (a0_piecesOfRuns, .inl (D.2 1, 13, .inl g0_piecesOfRuns)), (a0_heads, .inl (D.2 2, 13, .inr (.inl g0_heads))), (a1, .inr (4, [.ref a1_signs, .int v1_size])), (a1_signs, .inl (D.2 1, 12, .inl g1_signs))]) ⟨hx, hb, hml, hown, hts⟩ (mX5_at l D a1 a1_signs H.size v1_size g1_signs x4 r2 hr2) (cwV 1 hts gX1_layBetween_X5_at rfl rfl rfl (by decide +kernel) ⟨Nat.le_of_ble_eq_true rfl, Nat.le_of_ble_eq_true rfl⟩) hK hP hD hS hA [6, 7] [0, 1, 2, 3, 4, 5] [0, 1, 2, 3, 4, 5, 6, 7] rfl (by decide) rfl (by decide) (by decide) rfl (by decide) rfl rfl rfl hl.1 rfl (Nat.le_of_ble_eq_true rfl) dX1_layBetween_14 ⟨Nat.zero_le _, Nat.zero_le _⟩ (fun H locs hP hD hS => ?_)
        refine lv_istore (lv' := [(5, .int r2), (0, .ref a0), (1, .ref a1), (3, .int p3), (4, .int x4)]) hx hb dX1_layBetween_17 hl (by decide) rfl (fun ls hl => ?_)
        refine lv_iload hx hb dX1_layBetween_19 (lv_at hl 0 rfl) ?_
        refine lv_bipush (v := 42) hx hb dX1_layBetween_21 (by decide) ?_
        refine lv_icmp_eq (tgt := 49) hx hb dX1_layBetween_23 (by decide) (fun c_3 => ?_) (fun c_3 => ?_)
        · replace hf := ip c_3 hf
          refine lv_iinc (v := (x4 + (1 : Int32))) (lv' := [(4, .int (x4 + (1 : Int32))), (5, .int r2), (0, .ref a0), (1, .ref a1), (3, .int p3)]) hx hb dX1_layBetween_49 hl (k := 4) rfl rfl (by decide) rfl (fun ls hl => ?_)
          refine lv_goto (tgt := 5) hx hb dX1_layBetween_52 (by decide) ?_
          exact ih (x4 + (1 : Int32)) v0_size v0_runs v0_pieces v0_inRun g0_signs g0_starts g0_lengths g0_piecesOfRuns g0_heads H locs ls hf hP hD hS (lv_sub hl [2, 3, 4, 0] rfl)
        · replace hf := im c_3 hf
          refine lv_aload_n hx hb dX1_layBetween_26 rfl (lv_at hl 2 rfl) ?_
          refine lv_iload hx hb dX1_layBetween_27 (lv_at hl 4 rfl) ?_
          refine lv_iconst (v := 1) hx hb dX1_layBetween_29 (by decide) ?_
          refine lv_isub hx hb dX1_layBetween_30 ?_
          obtain ⟨r4, hr4, hf⟩ := bd hf
          refine zVi (As := [.int (x4 - (1 : Int32))]) (rest := []) (ci := 4) (q0 := 0) (wn := [(a0, .inr (0, [.ref a0_signs, .ref a0_starts, .ref a0_lengths, .ref a0_piecesOfRuns, .ref a0_heads, .int v0_size, .int v0_runs, .int v0_pieces, .int v0_inRun])), (a0_signs, .inl (D.2 1, 13, .inl g0_signs)), (a0_starts, .inl (D.2 1, 13, .inl g0_starts)), (a0_lengths, .inl (D.2 1, 13, .inl g0_lengths)), (a0_piecesOfRuns, .inl (D.2 1, 13, .inl g0_piecesOfRuns)), (a0_heads, .inl (D.2 2, 13, .inr (.inl g0_heads))), (a1, .inr (4, [.ref a1_signs, .int v1_size])), (a1_signs, .inl (D.2 1, 12, .inl g1_signs))]) ⟨hx, hb, hml, hown, hts⟩ (mX5_at l D a1 a1_signs H.size v1_size g1_signs (x4 - (1 : Int32)) r4 hr4) (cwV 1 hts gX1_layBetween_X5_at rfl rfl rfl (by decide +kernel) ⟨Nat.le_of_ble_eq_true rfl, Nat.le_of_ble_eq_true rfl⟩) hK hP hD hS hA [6, 7] [0, 1, 2, 3, 4, 5] [0, 1, 2, 3, 4, 5, 6, 7] rfl (by decide) rfl (by decide) (by decide) rfl (by decide) rfl rfl rfl hl.1 rfl (Nat.le_of_ble_eq_true rfl) dX1_layBetween_31 ⟨Nat.zero_le _, Nat.zero_le _⟩ (fun H locs hP hD hS => ?_)
          refine lv_bipush (v := 42) hx hb dX1_layBetween_34 (by decide) ?_
          refine lv_icmp_ne (tgt := 43) hx hb dX1_layBetween_36 (by decide) (fun c_5 => ?_) (fun c_5 => ?_)
          · replace hf := im c_5 hf
            exact k43 _ ih x4 r2 v0_size v0_runs v0_pieces v0_inRun g0_signs g0_starts g0_lengths g0_piecesOfRuns g0_heads H locs ls hf hP hD hS (lv_sub hl [1, 2, 3, 4, 0] rfl)
          · replace hf := ip c_5 hf
            refine lv_aload_n hx hb dX1_layBetween_39 rfl (lv_at hl 1 rfl) ?_
            obtain ⟨r6, hr6, hf⟩ := bd hf
            refine zVv (As := []) (rest := []) (ci := 0) (q0 := 0) (wn := [(a0, .inr (0, [.ref a0_signs, .ref a0_starts, .ref a0_lengths, .ref a0_piecesOfRuns, .ref a0_heads, .int v0_size, .int v0_runs, .int r6.1, .int r6.2])), (a0_signs, .inl (D.2 1, 13, .inl g0_signs)), (a0_starts, .inl (D.2 1, 13, .inl g0_starts)), (a0_lengths, .inl (D.2 1, 13, .inl g0_lengths)), (a0_piecesOfRuns, .inl (D.2 1, 13, .inl g0_piecesOfRuns)), (a0_heads, .inl (D.2 2, 13, .inr (.inl g0_heads))), (a1, .inr (4, [.ref a1_signs, .int v1_size])), (a1_signs, .inl (D.2 1, 12, .inl g1_signs))]) ⟨hx, hb, hml, hown, hts⟩ (mX1_beginPiece l D a0 a0_signs a0_starts a0_lengths a0_piecesOfRuns a0_heads H.size v0_size v0_runs v0_pieces v0_inRun r6 hr6) (cwV 0 hts gX1_layBetween_X1_beginPiece rfl rfl rfl (by decide +kernel) ⟨Nat.le_of_ble_eq_true rfl, Nat.le_of_ble_eq_true rfl⟩) hK hP hD hS hA [0] [1, 2, 3, 4, 5, 6, 7] [7, 0, 1, 2, 3, 4, 5, 6] rfl (by decide) rfl (by decide) (by decide) rfl (by decide) rfl rfl rfl hl.1 rfl (Nat.le_of_ble_eq_true rfl) dX1_layBetween_40 ⟨Nat.zero_le _, Nat.zero_le _⟩ (fun H locs hP hD hS => ?_)
            exact k43 _ ih x4 r2 v0_size v0_runs r6.1 r6.2 g0_signs g0_starts g0_lengths g0_piecesOfRuns g0_heads H locs ls hf hP hD hS (lv_sub hl [1, 2, 3, 4, 0] rfl)
  unfold fX1_layBetween at hf
  refine lv_iload_n hx hb dX1_layBetween_0 rfl (lv_at hl 2 rfl) ?_
  refine lv_iconst (v := 1) hx hb dX1_layBetween_1 (by decide) ?_
  refine lv_iadd hx hb dX1_layBetween_2 ?_
  refine lv_istore (lv' := [(4, .int (p2 + (1 : Int32))), (0, .ref a0), (1, .ref a1), (2, .int p2), (3, .int p3)]) hx hb dX1_layBetween_3 hl (by decide) rfl (fun ls hl => ?_)
  exact k5 N (p2 + (1 : Int32)) v0_size v0_runs v0_pieces v0_inRun g0_signs g0_starts g0_lengths g0_piecesOfRuns g0_heads H locs ls hf hP hD hS (lv_sub hl [1, 2, 4, 0] rfl)
def fX1_lay (N : Nat) (v0_size : Int32) (v0_runs : Int32) (v0_pieces : Int32) (v0_inRun : Int32) (g0_signs : Nat → Int32) (g0_starts : Nat → Int32) (g0_lengths : Nat → Int32) (g0_piecesOfRuns : Nat → Int32) (g0_heads : Nat → Int64) (v1_size : Int32) (g1_signs : Nat → Int32) : Option (Int32 × Int32 × Int32 × Int32 × (Nat → Int32) × (Nat → Int32) × (Nat → Int32) × (Nat → Int32) × (Nat → Int64)) :=
  Option.bind (fX1_firstStar N v1_size g1_signs) fun r1 =>
  Option.bind (fX1_lastStar N v1_size g1_signs) fun r2 =>
  Option.bind (fX1_beginPiece (0 : Int32) v0_inRun) fun r3 =>
  Option.bind (fX5_size v1_size) fun r4 =>
  Option.bind (fX1_layPart N (0 : Int32) (0 : Int32) r3.1 r3.2 g0_signs g0_starts g0_lengths g0_piecesOfRuns g0_heads v1_size g1_signs (r2 + (1 : Int32)) r4) fun r5 =>
  Option.bind (fX1_laySign r5.1 r5.2.1 r3.1 r5.2.2.1 r5.2.2.2.1 r5.2.2.2.2.1 r5.2.2.2.2.2.1 r5.2.2.2.2.2.2.1 r5.2.2.2.2.2.2.2 (36 : Int32)) fun r6 =>
  Option.bind (fX1_layPart N r6.1 r6.2.1 r3.1 r6.2.2.1 r6.2.2.2.1 r6.2.2.2.2.1 r6.2.2.2.2.2.1 r6.2.2.2.2.2.2.1 r6.2.2.2.2.2.2.2 v1_size g1_signs (0 : Int32) r1) fun r7 =>
  Option.bind (fX1_layBetween N r7.1 r7.2.1 r3.1 r7.2.2.1 r7.2.2.2.1 r7.2.2.2.2.1 r7.2.2.2.2.2.1 r7.2.2.2.2.2.2.1 r7.2.2.2.2.2.2.2 v1_size g1_signs r1 r2) fun r8 =>
  some (r8.1, r8.2.1, r8.2.2.1, r8.2.2.2.1, r8.2.2.2.2.1, r8.2.2.2.2.2.1, r8.2.2.2.2.2.2.1, r8.2.2.2.2.2.2.2.1, r8.2.2.2.2.2.2.2.2)
set_option maxHeartbeats 4000000 in
set_option maxRecDepth 100000 in
theorem mX1_lay (l : Launch) (D : zG) (a0 : Nat) (a0_signs : Nat) (a0_starts : Nat) (a0_lengths : Nat) (a0_piecesOfRuns : Nat) (a0_heads : Nat) (a1 : Nat) (a1_signs : Nat) (sz : Nat)  (v0_size : Int32) (v0_runs : Int32) (v0_pieces : Int32) (v0_inRun : Int32) (g0_signs : Nat → Int32) (g0_starts : Nat → Int32) (g0_lengths : Nat → Int32) (g0_piecesOfRuns : Nat → Int32) (g0_heads : Nat → Int64) (v1_size : Int32) (g1_signs : Nat → Int32)  (N : Nat) (res : Int32 × Int32 × Int32 × Int32 × (Nat → Int32) × (Nat → Int32) × (Nat → Int32) × (Nat → Int32) × (Nat → Int64)) (hf : fX1_lay N v0_size v0_runs v0_pieces v0_inRun g0_signs g0_starts g0_lengths g0_piecesOfRuns g0_heads v1_size g1_signs = some res) : Met l yX1_lay wsX1_lay ({ frames := 4, cells := 0, slots := 0, locals := 90 } : Room) (va_Pc [.ref a0, .ref a1] (zW D sz [(a0, .inr (0, [.ref a0_signs, .ref a0_starts, .ref a0_lengths, .ref a0_piecesOfRuns, .ref a0_heads, .int v0_size, .int v0_runs, .int v0_pieces, .int v0_inRun])), (a0_signs, .inl (D.2 1, 13, .inl g0_signs)), (a0_starts, .inl (D.2 1, 13, .inl g0_starts)), (a0_lengths, .inl (D.2 1, 13, .inl g0_lengths)), (a0_piecesOfRuns, .inl (D.2 1, 13, .inl g0_piecesOfRuns)), (a0_heads, .inl (D.2 2, 13, .inr (.inl g0_heads))), (a1, .inr (4, [.ref a1_signs, .int v1_size])), (a1_signs, .inl (D.2 1, 12, .inl g1_signs))])) (va_Qv (fun (_ : Unit) => True) (fun _ => zB D (va_A [(a0, .inr (0, [.ref a0_signs, .ref a0_starts, .ref a0_lengths, .ref a0_piecesOfRuns, .ref a0_heads, .int v0_size, .int v0_runs, .int v0_pieces, .int v0_inRun])), (a0_signs, .inl (D.2 1, 13, .inl g0_signs)), (a0_starts, .inl (D.2 1, 13, .inl g0_starts)), (a0_lengths, .inl (D.2 1, 13, .inl g0_lengths)), (a0_piecesOfRuns, .inl (D.2 1, 13, .inl g0_piecesOfRuns)), (a0_heads, .inl (D.2 2, 13, .inr (.inl g0_heads))), (a1, .inr (4, [.ref a1_signs, .int v1_size])), (a1_signs, .inl (D.2 1, 12, .inl g1_signs))] sz) [(a0, .inr (0, [.ref a0_signs, .ref a0_starts, .ref a0_lengths, .ref a0_piecesOfRuns, .ref a0_heads, .int res.1, .int res.2.1, .int res.2.2.1, .int res.2.2.2.1])), (a0_signs, .inl (D.2 1, 13, .inl res.2.2.2.2.1)), (a0_starts, .inl (D.2 1, 13, .inl res.2.2.2.2.2.1)), (a0_lengths, .inl (D.2 1, 13, .inl res.2.2.2.2.2.2.1)), (a0_piecesOfRuns, .inl (D.2 1, 13, .inl res.2.2.2.2.2.2.2.1)), (a0_heads, .inl (D.2 2, 13, .inr (.inl res.2.2.2.2.2.2.2.2))), (a1, .inr (4, [.ref a1_signs, .int v1_size])), (a1_signs, .inl (D.2 1, 12, .inl g1_signs))]) (va_A [(a0, .inr (0, [.ref a0_signs, .ref a0_starts, .ref a0_lengths, .ref a0_piecesOfRuns, .ref a0_heads, .int v0_size, .int v0_runs, .int v0_pieces, .int v0_inRun])), (a0_signs, .inl (D.2 1, 13, .inl g0_signs)), (a0_starts, .inl (D.2 1, 13, .inl g0_starts)), (a0_lengths, .inl (D.2 1, 13, .inl g0_lengths)), (a0_piecesOfRuns, .inl (D.2 1, 13, .inl g0_piecesOfRuns)), (a0_heads, .inl (D.2 2, 13, .inr (.inl g0_heads))), (a1, .inr (4, [.ref a1_signs, .int v1_size])), (a1_signs, .inl (D.2 1, 12, .inl g1_signs))] sz)) 0 0 (va_A [(a0, .inr (0, [.ref a0_signs, .ref a0_starts, .ref a0_lengths, .ref a0_piecesOfRuns, .ref a0_heads, .int v0_size, .int v0_runs, .int v0_pieces, .int v0_inRun])), (a0_signs, .inl (D.2 1, 13, .inl g0_signs)), (a0_starts, .inl (D.2 1, 13, .inl g0_starts)), (a0_lengths, .inl (D.2 1, 13, .inl g0_lengths)), (a0_piecesOfRuns, .inl (D.2 1, 13, .inl g0_piecesOfRuns)), (a0_heads, .inl (D.2 2, 13, .inr (.inl g0_heads))), (a1, .inr (4, [.ref a1_signs, .int v1_size])), (a1_signs, .inl (D.2 1, 12, .inl g1_signs))] sz) := by
  refine Met.ofW (cc := cX1_lay) (maxL := 4) (ret := none) (by decide) rfl ?_
  intro p e s m args below meth c s₁ B hml hv
  obtain ⟨rfl, hsz, hP, hK, hD0⟩ := hv
  have hx := B.exec
  have hb := B.bytes
  have hr := B.returns
  have hts := atoms_spec (ws := wsX1_lay) B.pre
  have hown : s.vm.findClass RX1 = some m.cls := findClass_of_methodNamed B.named
  have hlocks := B.notSynchronized
  subst hsz
  have hD := hD0.self (sz := s.heap.size)
  generalize hAe : va_A [(a0, .inr (0, [.ref a0_signs, .ref a0_starts, .ref a0_lengths, .ref a0_piecesOfRuns, .ref a0_heads, .int v0_size, .int v0_runs, .int v0_pieces, .int v0_inRun])), (a0_signs, .inl (D.2 1, 13, .inl g0_signs)), (a0_starts, .inl (D.2 1, 13, .inl g0_starts)), (a0_lengths, .inl (D.2 1, 13, .inl g0_lengths)), (a0_piecesOfRuns, .inl (D.2 1, 13, .inl g0_piecesOfRuns)), (a0_heads, .inl (D.2 2, 13, .inr (.inl g0_heads))), (a1, .inr (4, [.ref a1_signs, .int v1_size])), (a1_signs, .inl (D.2 1, 12, .inl g1_signs))] s.heap.size = A at hD ⊢
  have hA : ∀ q : Nat, s.heap.size ≤ q → A q := fun q h => by rw [← hAe]; exact Or.inr h
  have l28 := zat hts 1 (w := .fieldLink RX1 28 "TurnedWords$Cut" "size" "I") rfl
  have l32 := zat hts 2 (w := .fieldLink RX1 32 "TurnedWords$Cut" "runs" "I") rfl
  have l35 := zat hts 3 (w := .fieldLink RX1 35 "TurnedWords$Cut" "pieces" "I") rfl
  have hwX1 : ∀ w ∈ u_ws RX1 TX1 9, w ∈ wsX1_lay := fun w h => List.mem_cons_of_mem _ (List.mem_append_left _ (List.mem_append_right _ h))
  have hl := lv_entry ([.ref a0, .ref a1]) (n := 4) (Nat.le_of_ble_eq_true rfl)
  rw [lg_entry_eq]
  generalize (lg_sl ([.ref a0, .ref a1]) ++ List.replicate (4 - (lg_sl ([.ref a0, .ref a1])).length) Slot.unset).toArray = ls at hl ⊢
  have hl : lv_has ls 4 [(0, .ref a0), (1, .ref a1)] := hl
  refine zStart (A := A) hP (fun Q0 H locs hQ hP hS => ?_)
  unfold fX1_lay at hf
  refine lv_aload_n hx hb dX1_lay_0 rfl (lv_at hl 0 rfl) ?_
  refine lv_iconst (v := 0) hx hb dX1_lay_1 (by decide) ?_
  refine va_put (D := D.1) (ci := 0) (v := .int (0 : Int32)) (ty := .int) (C := RX1) (T := TX1) (N := 9) hx hb hts hwX1 tyX1 tyX1_ok nmX1 hown hK.1 hP hD hS 0 rfl rfl 5 (by decide) l28 (fun _ h9 => h9) rfl (by decide +kernel) rfl rfl (Nat.le_of_ble_eq_true rfl) dX1_lay_2 (fun H locs hP hD hS => ?_)
  have hP : va_P D.1 vwCl [(a0, .inr (0, [.ref a0_signs, .ref a0_starts, .ref a0_lengths, .ref a0_piecesOfRuns, .ref a0_heads, .int (0 : Int32), .int v0_runs, .int v0_pieces, .int v0_inRun])), (a0_signs, .inl (D.2 1, 13, .inl g0_signs)), (a0_starts, .inl (D.2 1, 13, .inl g0_starts)), (a0_lengths, .inl (D.2 1, 13, .inl g0_lengths)), (a0_piecesOfRuns, .inl (D.2 1, 13, .inl g0_piecesOfRuns)), (a0_heads, .inl (D.2 2, 13, .inr (.inl g0_heads))), (a1, .inr (4, [.ref a1_signs, .int v1_size])), (a1_signs, .inl (D.2 1, 12, .inl g1_signs))] H := hP
  have hD : va_D A [(a0, .inr (0, [.ref a0_signs, .ref a0_starts, .ref a0_lengths, .ref a0_piecesOfRuns, .ref a0_heads, .int (0 : Int32), .int v0_runs, .int v0_pieces, .int v0_inRun])), (a0_signs, .inl (D.2 1, 13, .inl g0_signs)), (a0_starts, .inl (D.2 1, 13, .inl g0_starts)), (a0_lengths, .inl (D.2 1, 13, .inl g0_lengths)), (a0_piecesOfRuns, .inl (D.2 1, 13, .inl g0_piecesOfRuns)), (a0_heads, .inl (D.2 2, 13, .inr (.inl g0_heads))), (a1, .inr (4, [.ref a1_signs, .int v1_size])), (a1_signs, .inl (D.2 1, 12, .inl g1_signs))] := hD
  refine lv_aload_n hx hb dX1_lay_5 rfl (lv_at hl 0 rfl) ?_
  refine lv_iconst (v := 0) hx hb dX1_lay_6 (by decide) ?_
  refine va_put (D := D.1) (ci := 0) (v := .int (0 : Int32)) (ty := .int) (C := RX1) (T := TX1) (N := 9) hx hb hts hwX1 tyX1 tyX1_ok nmX1 hown hK.1 hP hD hS 0 rfl rfl 6 (by decide) l32 (fun _ h9 => h9) rfl (by decide +kernel) rfl rfl (Nat.le_of_ble_eq_true rfl) dX1_lay_7 (fun H locs hP hD hS => ?_)
  have hP : va_P D.1 vwCl [(a0, .inr (0, [.ref a0_signs, .ref a0_starts, .ref a0_lengths, .ref a0_piecesOfRuns, .ref a0_heads, .int (0 : Int32), .int (0 : Int32), .int v0_pieces, .int v0_inRun])), (a0_signs, .inl (D.2 1, 13, .inl g0_signs)), (a0_starts, .inl (D.2 1, 13, .inl g0_starts)), (a0_lengths, .inl (D.2 1, 13, .inl g0_lengths)), (a0_piecesOfRuns, .inl (D.2 1, 13, .inl g0_piecesOfRuns)), (a0_heads, .inl (D.2 2, 13, .inr (.inl g0_heads))), (a1, .inr (4, [.ref a1_signs, .int v1_size])), (a1_signs, .inl (D.2 1, 12, .inl g1_signs))] H := hP
  have hD : va_D A [(a0, .inr (0, [.ref a0_signs, .ref a0_starts, .ref a0_lengths, .ref a0_piecesOfRuns, .ref a0_heads, .int (0 : Int32), .int (0 : Int32), .int v0_pieces, .int v0_inRun])), (a0_signs, .inl (D.2 1, 13, .inl g0_signs)), (a0_starts, .inl (D.2 1, 13, .inl g0_starts)), (a0_lengths, .inl (D.2 1, 13, .inl g0_lengths)), (a0_piecesOfRuns, .inl (D.2 1, 13, .inl g0_piecesOfRuns)), (a0_heads, .inl (D.2 2, 13, .inr (.inl g0_heads))), (a1, .inr (4, [.ref a1_signs, .int v1_size])), (a1_signs, .inl (D.2 1, 12, .inl g1_signs))] := hD
  refine lv_aload_n hx hb dX1_lay_10 rfl (lv_at hl 0 rfl) ?_
  refine lv_iconst (v := 0) hx hb dX1_lay_11 (by decide) ?_
  refine va_put (D := D.1) (ci := 0) (v := .int (0 : Int32)) (ty := .int) (C := RX1) (T := TX1) (N := 9) hx hb hts hwX1 tyX1 tyX1_ok nmX1 hown hK.1 hP hD hS 0 rfl rfl 7 (by decide) l35 (fun _ h9 => h9) rfl (by decide +kernel) rfl rfl (Nat.le_of_ble_eq_true rfl) dX1_lay_12 (fun H locs hP hD hS => ?_)
  have hP : va_P D.1 vwCl [(a0, .inr (0, [.ref a0_signs, .ref a0_starts, .ref a0_lengths, .ref a0_piecesOfRuns, .ref a0_heads, .int (0 : Int32), .int (0 : Int32), .int (0 : Int32), .int v0_inRun])), (a0_signs, .inl (D.2 1, 13, .inl g0_signs)), (a0_starts, .inl (D.2 1, 13, .inl g0_starts)), (a0_lengths, .inl (D.2 1, 13, .inl g0_lengths)), (a0_piecesOfRuns, .inl (D.2 1, 13, .inl g0_piecesOfRuns)), (a0_heads, .inl (D.2 2, 13, .inr (.inl g0_heads))), (a1, .inr (4, [.ref a1_signs, .int v1_size])), (a1_signs, .inl (D.2 1, 12, .inl g1_signs))] H := hP
  have hD : va_D A [(a0, .inr (0, [.ref a0_signs, .ref a0_starts, .ref a0_lengths, .ref a0_piecesOfRuns, .ref a0_heads, .int (0 : Int32), .int (0 : Int32), .int (0 : Int32), .int v0_inRun])), (a0_signs, .inl (D.2 1, 13, .inl g0_signs)), (a0_starts, .inl (D.2 1, 13, .inl g0_starts)), (a0_lengths, .inl (D.2 1, 13, .inl g0_lengths)), (a0_piecesOfRuns, .inl (D.2 1, 13, .inl g0_piecesOfRuns)), (a0_heads, .inl (D.2 2, 13, .inr (.inl g0_heads))), (a1, .inr (4, [.ref a1_signs, .int v1_size])), (a1_signs, .inl (D.2 1, 12, .inl g1_signs))] := hD
  refine lv_aload_n hx hb dX1_lay_15 rfl (lv_at hl 1 rfl) ?_
  obtain ⟨r1, hr1, hf⟩ := bd hf
  refine zSi (As := [.ref a1]) (rest := []) (wn := [(a0, .inr (0, [.ref a0_signs, .ref a0_starts, .ref a0_lengths, .ref a0_piecesOfRuns, .ref a0_heads, .int (0 : Int32), .int (0 : Int32), .int (0 : Int32), .int v0_inRun])), (a0_signs, .inl (D.2 1, 13, .inl g0_signs)), (a0_starts, .inl (D.2 1, 13, .inl g0_starts)), (a0_lengths, .inl (D.2 1, 13, .inl g0_lengths)), (a0_piecesOfRuns, .inl (D.2 1, 13, .inl g0_piecesOfRuns)), (a0_heads, .inl (D.2 2, 13, .inr (.inl g0_heads))), (a1, .inr (4, [.ref a1_signs, .int v1_size])), (a1_signs, .inl (D.2 1, 12, .inl g1_signs))]) ⟨hx, hb, hml, hown, hts⟩ (mX1_firstStar l D a1 a1_signs H.size v1_size g1_signs N r1 hr1) (va_cwS 1 hts gX1_lay_X1_firstStar rfl rfl rfl (by decide +kernel) ⟨Nat.le_of_ble_eq_true rfl, Nat.le_of_ble_eq_true rfl⟩) hK hP hD hS hA [6, 7] [0, 1, 2, 3, 4, 5] [0, 1, 2, 3, 4, 5, 6, 7] rfl (by decide) rfl (by decide) (by decide) rfl (by decide) rfl hl.1 rfl (Nat.le_of_ble_eq_true rfl) dX1_lay_16 ⟨Nat.zero_le _, Nat.zero_le _⟩ (fun H locs hP hD hS => ?_)
  refine lv_istore_n (lv' := [(2, .int r1), (0, .ref a0), (1, .ref a1)]) hx hb dX1_lay_19 rfl hl (by decide) rfl (fun ls hl => ?_)
  refine lv_aload_n hx hb dX1_lay_20 rfl (lv_at hl 2 rfl) ?_
  obtain ⟨r2, hr2, hf⟩ := bd hf
  refine zSi (As := [.ref a1]) (rest := []) (wn := [(a0, .inr (0, [.ref a0_signs, .ref a0_starts, .ref a0_lengths, .ref a0_piecesOfRuns, .ref a0_heads, .int (0 : Int32), .int (0 : Int32), .int (0 : Int32), .int v0_inRun])), (a0_signs, .inl (D.2 1, 13, .inl g0_signs)), (a0_starts, .inl (D.2 1, 13, .inl g0_starts)), (a0_lengths, .inl (D.2 1, 13, .inl g0_lengths)), (a0_piecesOfRuns, .inl (D.2 1, 13, .inl g0_piecesOfRuns)), (a0_heads, .inl (D.2 2, 13, .inr (.inl g0_heads))), (a1, .inr (4, [.ref a1_signs, .int v1_size])), (a1_signs, .inl (D.2 1, 12, .inl g1_signs))]) ⟨hx, hb, hml, hown, hts⟩ (mX1_lastStar l D a1 a1_signs H.size v1_size g1_signs N r2 hr2) (va_cwS 1 hts gX1_lay_X1_lastStar rfl rfl rfl (by decide +kernel) ⟨Nat.le_of_ble_eq_true rfl, Nat.le_of_ble_eq_true rfl⟩) hK hP hD hS hA [6, 7] [0, 1, 2, 3, 4, 5] [0, 1, 2, 3, 4, 5, 6, 7] rfl (by decide) rfl (by decide) (by decide) rfl (by decide) rfl hl.1 rfl (Nat.le_of_ble_eq_true rfl) dX1_lay_21 ⟨Nat.zero_le _, Nat.zero_le _⟩ (fun H locs hP hD hS => ?_)
  refine lv_istore_n (lv' := [(3, .int r2), (2, .int r1), (0, .ref a0), (1, .ref a1)]) hx hb dX1_lay_24 rfl hl (by decide) rfl (fun ls hl => ?_)
  refine lv_aload_n hx hb dX1_lay_25 rfl (lv_at hl 2 rfl) ?_
  obtain ⟨r3, hr3, hf⟩ := bd hf
  refine zVv (As := []) (rest := []) (ci := 0) (q0 := 0) (wn := [(a0, .inr (0, [.ref a0_signs, .ref a0_starts, .ref a0_lengths, .ref a0_piecesOfRuns, .ref a0_heads, .int (0 : Int32), .int (0 : Int32), .int r3.1, .int r3.2])), (a0_signs, .inl (D.2 1, 13, .inl g0_signs)), (a0_starts, .inl (D.2 1, 13, .inl g0_starts)), (a0_lengths, .inl (D.2 1, 13, .inl g0_lengths)), (a0_piecesOfRuns, .inl (D.2 1, 13, .inl g0_piecesOfRuns)), (a0_heads, .inl (D.2 2, 13, .inr (.inl g0_heads))), (a1, .inr (4, [.ref a1_signs, .int v1_size])), (a1_signs, .inl (D.2 1, 12, .inl g1_signs))]) ⟨hx, hb, hml, hown, hts⟩ (mX1_beginPiece l D a0 a0_signs a0_starts a0_lengths a0_piecesOfRuns a0_heads H.size (0 : Int32) (0 : Int32) (0 : Int32) v0_inRun r3 hr3) (cwV 0 hts gX1_lay_X1_beginPiece rfl rfl rfl (by decide +kernel) ⟨Nat.le_of_ble_eq_true rfl, Nat.le_of_ble_eq_true rfl⟩) hK hP hD hS hA [0] [1, 2, 3, 4, 5, 6, 7] [7, 0, 1, 2, 3, 4, 5, 6] rfl (by decide) rfl (by decide) (by decide) rfl (by decide) rfl rfl rfl hl.1 rfl (Nat.le_of_ble_eq_true rfl) dX1_lay_26 ⟨Nat.zero_le _, Nat.zero_le _⟩ (fun H locs hP hD hS => ?_)
  refine lv_aload_n hx hb dX1_lay_29 rfl (lv_at hl 2 rfl) ?_
  refine lv_aload_n hx hb dX1_lay_30 rfl (lv_at hl 3 rfl) ?_
  refine lv_iload_n hx hb dX1_lay_31 rfl (lv_at hl 0 rfl) ?_
  refine lv_iconst (v := 1) hx hb dX1_lay_32 (by decide) ?_
  refine lv_iadd hx hb dX1_lay_33 ?_
  refine lv_aload_n hx hb dX1_lay_34 rfl (lv_at hl 3 rfl) ?_
  obtain ⟨r4, hr4, hf⟩ := bd hf
  refine zVi (As := []) (rest := [.int (r2 + (1 : Int32)), .ref a1, .ref a0]) (ci := 4) (q0 := 0) (wn := [(a0, .inr (0, [.ref a0_signs, .ref a0_starts, .ref a0_lengths, .ref a0_piecesOfRuns, .ref a0_heads, .int (0 : Int32), .int (0 : Int32), .int r3.1, .int r3.2])), (a0_signs, .inl (D.2 1, 13, .inl g0_signs)), (a0_starts, .inl (D.2 1, 13, .inl g0_starts)), (a0_lengths, .inl (D.2 1, 13, .inl g0_lengths)), (a0_piecesOfRuns, .inl (D.2 1, 13, .inl g0_piecesOfRuns)), (a0_heads, .inl (D.2 2, 13, .inr (.inl g0_heads))), (a1, .inr (4, [.ref a1_signs, .int v1_size])), (a1_signs, .inl (D.2 1, 12, .inl g1_signs))]) ⟨hx, hb, hml, hown, hts⟩ (mX5_size l D a1 a1_signs H.size v1_size r4 hr4) (cwV 0 hts gX1_lay_X5_size rfl rfl rfl (by decide +kernel) ⟨Nat.le_of_ble_eq_true rfl, Nat.le_of_ble_eq_true rfl⟩) hK hP hD hS hA [6] [0, 1, 2, 3, 4, 5, 7] [0, 1, 2, 3, 4, 5, 7, 6] rfl (by decide) rfl (by decide) (by decide) rfl (by decide) rfl rfl rfl hl.1 rfl (Nat.le_of_ble_eq_true rfl) dX1_lay_35 ⟨Nat.zero_le _, Nat.zero_le _⟩ (fun H locs hP hD hS => ?_)
  obtain ⟨r5, hr5, hf⟩ := bd hf
  refine zVv (As := [.ref a1, .int (r2 + (1 : Int32)), .int r4]) (rest := []) (ci := 0) (q0 := 0) (wn := [(a0, .inr (0, [.ref a0_signs, .ref a0_starts, .ref a0_lengths, .ref a0_piecesOfRuns, .ref a0_heads, .int r5.1, .int r5.2.1, .int r3.1, .int r5.2.2.1])), (a0_signs, .inl (D.2 1, 13, .inl r5.2.2.2.1)), (a0_starts, .inl (D.2 1, 13, .inl r5.2.2.2.2.1)), (a0_lengths, .inl (D.2 1, 13, .inl r5.2.2.2.2.2.1)), (a0_piecesOfRuns, .inl (D.2 1, 13, .inl r5.2.2.2.2.2.2.1)), (a0_heads, .inl (D.2 2, 13, .inr (.inl r5.2.2.2.2.2.2.2))), (a1, .inr (4, [.ref a1_signs, .int v1_size])), (a1_signs, .inl (D.2 1, 12, .inl g1_signs))]) ⟨hx, hb, hml, hown, hts⟩ (mX1_layPart l D a0 a0_signs a0_starts a0_lengths a0_piecesOfRuns a0_heads a1 a1_signs H.size (0 : Int32) (0 : Int32) r3.1 r3.2 g0_signs g0_starts g0_lengths g0_piecesOfRuns g0_heads v1_size g1_signs (r2 + (1 : Int32)) r4 N r5 hr5) (cwV 3 hts gX1_lay_X1_layPart rfl rfl rfl (by decide +kernel) ⟨Nat.le_of_ble_eq_true rfl, Nat.le_of_ble_eq_true rfl⟩) hK hP hD hS hA [0, 1, 2, 3, 4, 5, 6, 7] [] [0, 1, 2, 3, 4, 5, 6, 7] rfl (by decide) rfl (by decide) (by decide) rfl (by decide) rfl rfl rfl hl.1 rfl (Nat.le_of_ble_eq_true rfl) dX1_lay_38 ⟨Nat.zero_le _, Nat.zero_le _⟩ (fun H locs hP hD hS => ?_)
  refine lv_aload_n hx hb dX1_lay_41 rfl (lv_at hl 2 rfl) ?_
  refine lv_bipush (v := 36) hx hb dX1_lay_42 (by decide) ?_
  obtain ⟨r6, hr6, hf⟩ := bd hf
  refine zVv (As := [.int (36 : Int32)]) (rest := []) (ci := 0) (q0 := 0) (wn := [(a0, .inr (0, [.ref a0_signs, .ref a0_starts, .ref a0_lengths, .ref a0_piecesOfRuns, .ref a0_heads, .int r6.1, .int r6.2.1, .int r3.1, .int r6.2.2.1])), (a0_signs, .inl (D.2 1, 13, .inl r6.2.2.2.1)), (a0_starts, .inl (D.2 1, 13, .inl r6.2.2.2.2.1)), (a0_lengths, .inl (D.2 1, 13, .inl r6.2.2.2.2.2.1)), (a0_piecesOfRuns, .inl (D.2 1, 13, .inl r6.2.2.2.2.2.2.1)), (a0_heads, .inl (D.2 2, 13, .inr (.inl r6.2.2.2.2.2.2.2))), (a1, .inr (4, [.ref a1_signs, .int v1_size])), (a1_signs, .inl (D.2 1, 12, .inl g1_signs))]) ⟨hx, hb, hml, hown, hts⟩ (mX1_laySign l D a0 a0_signs a0_starts a0_lengths a0_piecesOfRuns a0_heads H.size r5.1 r5.2.1 r3.1 r5.2.2.1 r5.2.2.2.1 r5.2.2.2.2.1 r5.2.2.2.2.2.1 r5.2.2.2.2.2.2.1 r5.2.2.2.2.2.2.2 (36 : Int32) r6 hr6) (cwV 1 hts gX1_lay_X1_laySign rfl rfl rfl (by decide +kernel) ⟨Nat.le_of_ble_eq_true rfl, Nat.le_of_ble_eq_true rfl⟩) hK hP hD hS hA [0, 1, 2, 3, 4, 5] [6, 7] [2, 3, 4, 5, 6, 7, 0, 1] rfl (by decide) rfl (by decide) (by decide) rfl (by decide) rfl rfl rfl hl.1 rfl (Nat.le_of_ble_eq_true rfl) dX1_lay_44 ⟨Nat.zero_le _, Nat.zero_le _⟩ (fun H locs hP hD hS => ?_)
  refine lv_aload_n hx hb dX1_lay_47 rfl (lv_at hl 2 rfl) ?_
  refine lv_aload_n hx hb dX1_lay_48 rfl (lv_at hl 3 rfl) ?_
  refine lv_iconst (v := 0) hx hb dX1_lay_49 (by decide) ?_
  refine lv_iload_n hx hb dX1_lay_50 rfl (lv_at hl 1 rfl) ?_
  obtain ⟨r7, hr7, hf⟩ := bd hf
  refine zVv (As := [.ref a1, .int (0 : Int32), .int r1]) (rest := []) (ci := 0) (q0 := 0) (wn := [(a0, .inr (0, [.ref a0_signs, .ref a0_starts, .ref a0_lengths, .ref a0_piecesOfRuns, .ref a0_heads, .int r7.1, .int r7.2.1, .int r3.1, .int r7.2.2.1])), (a0_signs, .inl (D.2 1, 13, .inl r7.2.2.2.1)), (a0_starts, .inl (D.2 1, 13, .inl r7.2.2.2.2.1)), (a0_lengths, .inl (D.2 1, 13, .inl r7.2.2.2.2.2.1)), (a0_piecesOfRuns, .inl (D.2 1, 13, .inl r7.2.2.2.2.2.2.1)), (a0_heads, .inl (D.2 2, 13, .inr (.inl r7.2.2.2.2.2.2.2))), (a1, .inr (4, [.ref a1_signs, .int v1_size])), (a1_signs, .inl (D.2 1, 12, .inl g1_signs))]) ⟨hx, hb, hml, hown, hts⟩ (mX1_layPart l D a0 a0_signs a0_starts a0_lengths a0_piecesOfRuns a0_heads a1 a1_signs H.size r6.1 r6.2.1 r3.1 r6.2.2.1 r6.2.2.2.1 r6.2.2.2.2.1 r6.2.2.2.2.2.1 r6.2.2.2.2.2.2.1 r6.2.2.2.2.2.2.2 v1_size g1_signs (0 : Int32) r1 N r7 hr7) (cwV 3 hts gX1_lay_X1_layPart rfl rfl rfl (by decide +kernel) ⟨Nat.le_of_ble_eq_true rfl, Nat.le_of_ble_eq_true rfl⟩) hK hP hD hS hA [0, 1, 2, 3, 4, 5, 6, 7] [] [0, 1, 2, 3, 4, 5, 6, 7] rfl (by decide) rfl (by decide) (by decide) rfl (by decide) rfl rfl rfl hl.1 rfl (Nat.le_of_ble_eq_true rfl) dX1_lay_51 ⟨Nat.zero_le _, Nat.zero_le _⟩ (fun H locs hP hD hS => ?_)
  refine lv_aload_n hx hb dX1_lay_54 rfl (lv_at hl 2 rfl) ?_
  refine lv_aload_n hx hb dX1_lay_55 rfl (lv_at hl 3 rfl) ?_
  refine lv_iload_n hx hb dX1_lay_56 rfl (lv_at hl 1 rfl) ?_
  refine lv_iload_n hx hb dX1_lay_57 rfl (lv_at hl 0 rfl) ?_
  obtain ⟨r8, hr8, hf⟩ := bd hf
  refine zVv (As := [.ref a1, .int r1, .int r2]) (rest := []) (ci := 0) (q0 := 0) (wn := [(a0, .inr (0, [.ref a0_signs, .ref a0_starts, .ref a0_lengths, .ref a0_piecesOfRuns, .ref a0_heads, .int r8.1, .int r8.2.1, .int r8.2.2.1, .int r8.2.2.2.1])), (a0_signs, .inl (D.2 1, 13, .inl r8.2.2.2.2.1)), (a0_starts, .inl (D.2 1, 13, .inl r8.2.2.2.2.2.1)), (a0_lengths, .inl (D.2 1, 13, .inl r8.2.2.2.2.2.2.1)), (a0_piecesOfRuns, .inl (D.2 1, 13, .inl r8.2.2.2.2.2.2.2.1)), (a0_heads, .inl (D.2 2, 13, .inr (.inl r8.2.2.2.2.2.2.2.2))), (a1, .inr (4, [.ref a1_signs, .int v1_size])), (a1_signs, .inl (D.2 1, 12, .inl g1_signs))]) ⟨hx, hb, hml, hown, hts⟩ (mX1_layBetween l D a0 a0_signs a0_starts a0_lengths a0_piecesOfRuns a0_heads a1 a1_signs H.size r7.1 r7.2.1 r3.1 r7.2.2.1 r7.2.2.2.1 r7.2.2.2.2.1 r7.2.2.2.2.2.1 r7.2.2.2.2.2.2.1 r7.2.2.2.2.2.2.2 v1_size g1_signs r1 r2 N r8 hr8) (cwV 3 hts gX1_lay_X1_layBetween rfl rfl rfl (by decide +kernel) ⟨Nat.le_of_ble_eq_true rfl, Nat.le_of_ble_eq_true rfl⟩) hK hP hD hS hA [0, 1, 2, 3, 4, 5, 6, 7] [] [0, 1, 2, 3, 4, 5, 6, 7] rfl (by decide) rfl (by decide) (by decide) rfl (by decide) rfl rfl rfl hl.1 rfl (Nat.le_of_ble_eq_true rfl) dX1_lay_58 ⟨Nat.zero_le _, Nat.zero_le _⟩ (fun H locs hP hD hS => ?_)
  have he := Option.some.inj hf
  rw [hQ]
  exact W.vret hx hb hr (fun t ht hW => by rw [← he]; exact ⟨⟨(), rfl, trivial, by rw [ht]; exact hP, hD⟩, hS.F ht⟩) hS.2.2 dX1_lay_61
def fX1_pieces (v0_pieces : Int32) : Option (Int32) :=
  some (v0_pieces)
set_option maxHeartbeats 4000000 in
set_option maxRecDepth 100000 in
theorem mX1_pieces (l : Launch) (D : zG) (a0 : Nat) (a0_signs : Nat) (a0_starts : Nat) (a0_lengths : Nat) (a0_piecesOfRuns : Nat) (a0_heads : Nat) (sz : Nat)  (v0_size : Int32) (v0_runs : Int32) (v0_pieces : Int32) (v0_inRun : Int32)  (res : Int32) (hf : fX1_pieces v0_pieces = some res) : Met l yX1_pieces wsX1_pieces ({ frames := 0, cells := 0, slots := 0, locals := 0 } : Room) (va_Pc [.ref a0] (zW D sz [(a0, .inr (0, [.ref a0_signs, .ref a0_starts, .ref a0_lengths, .ref a0_piecesOfRuns, .ref a0_heads, .int v0_size, .int v0_runs, .int v0_pieces, .int v0_inRun]))])) (va_Qi (fun r (_ : Unit) => r = res) (fun _ => zB D (va_A [(a0, .inr (0, [.ref a0_signs, .ref a0_starts, .ref a0_lengths, .ref a0_piecesOfRuns, .ref a0_heads, .int v0_size, .int v0_runs, .int v0_pieces, .int v0_inRun]))] sz) [(a0, .inr (0, [.ref a0_signs, .ref a0_starts, .ref a0_lengths, .ref a0_piecesOfRuns, .ref a0_heads, .int v0_size, .int v0_runs, .int v0_pieces, .int v0_inRun]))]) (va_A [(a0, .inr (0, [.ref a0_signs, .ref a0_starts, .ref a0_lengths, .ref a0_piecesOfRuns, .ref a0_heads, .int v0_size, .int v0_runs, .int v0_pieces, .int v0_inRun]))] sz)) 0 0 (va_A [(a0, .inr (0, [.ref a0_signs, .ref a0_starts, .ref a0_lengths, .ref a0_piecesOfRuns, .ref a0_heads, .int v0_size, .int v0_runs, .int v0_pieces, .int v0_inRun]))] sz) := by
  refine Met.ofW (cc := cX1_pieces) (maxL := 1) (ret := (some .int)) (by decide) rfl ?_
  intro p e s m args below meth c s₁ B hml hv
  obtain ⟨rfl, hsz, hP, hK, hD0⟩ := hv
  have hx := B.exec
  have hb := B.bytes
  have hr := B.returns
  have hts := atoms_spec (ws := wsX1_pieces) B.pre
  have hown : s.vm.findClass RX1 = some m.cls := findClass_of_methodNamed B.named
  have hlocks := B.notSynchronized
  subst hsz
  have hD := hD0.self (sz := s.heap.size)
  generalize hAe : va_A [(a0, .inr (0, [.ref a0_signs, .ref a0_starts, .ref a0_lengths, .ref a0_piecesOfRuns, .ref a0_heads, .int v0_size, .int v0_runs, .int v0_pieces, .int v0_inRun]))] s.heap.size = A at hD ⊢
  have hA : ∀ q : Nat, s.heap.size ≤ q → A q := fun q h => by rw [← hAe]; exact Or.inr h
  have l35 := zat hts 1 (w := .fieldLink RX1 35 "TurnedWords$Cut" "pieces" "I") rfl
  have hwX1 : ∀ w ∈ u_ws RX1 TX1 9, w ∈ wsX1_pieces := fun w h => List.mem_cons_of_mem _ (List.mem_append_right _ h)
  have hl := lv_entry ([.ref a0]) (n := 1) (Nat.le_of_ble_eq_true rfl)
  rw [lg_entry_eq]
  generalize (lg_sl ([.ref a0]) ++ List.replicate (1 - (lg_sl ([.ref a0])).length) Slot.unset).toArray = ls at hl ⊢
  have hl : lv_has ls 1 [(0, .ref a0)] := hl
  refine zStart (A := A) hP (fun Q0 H locs hQ hP hS => ?_)
  unfold fX1_pieces at hf
  refine lv_aload_n hx hb dX1_pieces_0 rfl (lv_at hl 0 rfl) ?_
  refine va_get (D := D.1) (ci := 0) (v := .int v0_pieces) (C := RX1) (T := TX1) (N := 9) hx hb hts hwX1 hown hK.1 hP 0 rfl rfl 7 (by decide) l35 (fun _ h9 => h9) rfl dX1_pieces_1 ?_
  have he := Option.some.inj hf
  rw [hQ]
  exact W.iret (v := v0_pieces) hx hb hr (fun t ht hW => by rw [← he]; exact ⟨⟨v0_pieces, (), rfl, rfl, by rw [ht]; exact hP, hD⟩, hS.F ht⟩) hS.2.2 dX1_pieces_4
def fX1_runs (v0_runs : Int32) : Option (Int32) :=
  some (v0_runs)
set_option maxHeartbeats 4000000 in
set_option maxRecDepth 100000 in
theorem mX1_runs (l : Launch) (D : zG) (a0 : Nat) (a0_signs : Nat) (a0_starts : Nat) (a0_lengths : Nat) (a0_piecesOfRuns : Nat) (a0_heads : Nat) (sz : Nat)  (v0_size : Int32) (v0_runs : Int32) (v0_pieces : Int32) (v0_inRun : Int32)  (res : Int32) (hf : fX1_runs v0_runs = some res) : Met l yX1_runs wsX1_runs ({ frames := 0, cells := 0, slots := 0, locals := 0 } : Room) (va_Pc [.ref a0] (zW D sz [(a0, .inr (0, [.ref a0_signs, .ref a0_starts, .ref a0_lengths, .ref a0_piecesOfRuns, .ref a0_heads, .int v0_size, .int v0_runs, .int v0_pieces, .int v0_inRun]))])) (va_Qi (fun r (_ : Unit) => r = res) (fun _ => zB D (va_A [(a0, .inr (0, [.ref a0_signs, .ref a0_starts, .ref a0_lengths, .ref a0_piecesOfRuns, .ref a0_heads, .int v0_size, .int v0_runs, .int v0_pieces, .int v0_inRun]))] sz) [(a0, .inr (0, [.ref a0_signs, .ref a0_starts, .ref a0_lengths, .ref a0_piecesOfRuns, .ref a0_heads, .int v0_size, .int v0_runs, .int v0_pieces, .int v0_inRun]))]) (va_A [(a0, .inr (0, [.ref a0_signs, .ref a0_starts, .ref a0_lengths, .ref a0_piecesOfRuns, .ref a0_heads, .int v0_size, .int v0_runs, .int v0_pieces, .int v0_inRun]))] sz)) 0 0 (va_A [(a0, .inr (0, [.ref a0_signs, .ref a0_starts, .ref a0_lengths, .ref a0_piecesOfRuns, .ref a0_heads, .int v0_size, .int v0_runs, .int v0_pieces, .int v0_inRun]))] sz) := by
  refine Met.ofW (cc := cX1_runs) (maxL := 1) (ret := (some .int)) (by decide) rfl ?_
  intro p e s m args below meth c s₁ B hml hv
  obtain ⟨rfl, hsz, hP, hK, hD0⟩ := hv
  have hx := B.exec
  have hb := B.bytes
  have hr := B.returns
  have hts := atoms_spec (ws := wsX1_runs) B.pre
  have hown : s.vm.findClass RX1 = some m.cls := findClass_of_methodNamed B.named
  have hlocks := B.notSynchronized
  subst hsz
  have hD := hD0.self (sz := s.heap.size)
  generalize hAe : va_A [(a0, .inr (0, [.ref a0_signs, .ref a0_starts, .ref a0_lengths, .ref a0_piecesOfRuns, .ref a0_heads, .int v0_size, .int v0_runs, .int v0_pieces, .int v0_inRun]))] s.heap.size = A at hD ⊢
  have hA : ∀ q : Nat, s.heap.size ≤ q → A q := fun q h => by rw [← hAe]; exact Or.inr h
  have l32 := zat hts 1 (w := .fieldLink RX1 32 "TurnedWords$Cut" "runs" "I") rfl
  have hwX1 : ∀ w ∈ u_ws RX1 TX1 9, w ∈ wsX1_runs := fun w h => List.mem_cons_of_mem _ (List.mem_append_right _ h)
  have hl := lv_entry ([.ref a0]) (n := 1) (Nat.le_of_ble_eq_true rfl)
  rw [lg_entry_eq]
  generalize (lg_sl ([.ref a0]) ++ List.replicate (1 - (lg_sl ([.ref a0])).length) Slot.unset).toArray = ls at hl ⊢
  have hl : lv_has ls 1 [(0, .ref a0)] := hl
  refine zStart (A := A) hP (fun Q0 H locs hQ hP hS => ?_)
  unfold fX1_runs at hf
  refine lv_aload_n hx hb dX1_runs_0 rfl (lv_at hl 0 rfl) ?_
  refine va_get (D := D.1) (ci := 0) (v := .int v0_runs) (C := RX1) (T := TX1) (N := 9) hx hb hts hwX1 hown hK.1 hP 0 rfl rfl 6 (by decide) l32 (fun _ h9 => h9) rfl dX1_runs_1 ?_
  have he := Option.some.inj hf
  rw [hQ]
  exact W.iret (v := v0_runs) hx hb hr (fun t ht hW => by rw [← he]; exact ⟨⟨v0_runs, (), rfl, rfl, by rw [ht]; exact hP, hD⟩, hS.F ht⟩) hS.2.2 dX1_runs_4
def fX1_hasRun (v0_runs : Int32) (p1 : Int32) : Option (Int32) :=
  if p1 < (0 : Int32) then
    some ((0 : Int32))
  else
    if v0_runs ≤ p1 then
      some ((0 : Int32))
    else
      some ((1 : Int32))
set_option maxHeartbeats 4000000 in
set_option maxRecDepth 100000 in
theorem mX1_hasRun (l : Launch) (D : zG) (a0 : Nat) (a0_signs : Nat) (a0_starts : Nat) (a0_lengths : Nat) (a0_piecesOfRuns : Nat) (a0_heads : Nat) (sz : Nat)  (v0_size : Int32) (v0_runs : Int32) (v0_pieces : Int32) (v0_inRun : Int32) (p1 : Int32) (res : Int32) (hf : fX1_hasRun v0_runs p1 = some res) : Met l yX1_hasRun wsX1_hasRun ({ frames := 0, cells := 0, slots := 0, locals := 0 } : Room) (va_Pc [.ref a0, .int p1] (zW D sz [(a0, .inr (0, [.ref a0_signs, .ref a0_starts, .ref a0_lengths, .ref a0_piecesOfRuns, .ref a0_heads, .int v0_size, .int v0_runs, .int v0_pieces, .int v0_inRun]))])) (va_Qi (fun r (_ : Unit) => r = res ∧ (r = 0 ∨ r = 1)) (fun _ => zB D (va_A [(a0, .inr (0, [.ref a0_signs, .ref a0_starts, .ref a0_lengths, .ref a0_piecesOfRuns, .ref a0_heads, .int v0_size, .int v0_runs, .int v0_pieces, .int v0_inRun]))] sz) [(a0, .inr (0, [.ref a0_signs, .ref a0_starts, .ref a0_lengths, .ref a0_piecesOfRuns, .ref a0_heads, .int v0_size, .int v0_runs, .int v0_pieces, .int v0_inRun]))]) (va_A [(a0, .inr (0, [.ref a0_signs, .ref a0_starts, .ref a0_lengths, .ref a0_piecesOfRuns, .ref a0_heads, .int v0_size, .int v0_runs, .int v0_pieces, .int v0_inRun]))] sz)) 0 0 (va_A [(a0, .inr (0, [.ref a0_signs, .ref a0_starts, .ref a0_lengths, .ref a0_piecesOfRuns, .ref a0_heads, .int v0_size, .int v0_runs, .int v0_pieces, .int v0_inRun]))] sz) := by
  refine Met.ofW (cc := cX1_hasRun) (maxL := 2) (ret := (some .boolean)) (by decide) rfl ?_
  intro p e s m args below meth c s₁ B hml hv
  obtain ⟨rfl, hsz, hP, hK, hD0⟩ := hv
  have hx := B.exec
  have hb := B.bytes
  have hr := B.returns
  have hts := atoms_spec (ws := wsX1_hasRun) B.pre
  have hown : s.vm.findClass RX1 = some m.cls := findClass_of_methodNamed B.named
  have hlocks := B.notSynchronized
  subst hsz
  have hD := hD0.self (sz := s.heap.size)
  generalize hAe : va_A [(a0, .inr (0, [.ref a0_signs, .ref a0_starts, .ref a0_lengths, .ref a0_piecesOfRuns, .ref a0_heads, .int v0_size, .int v0_runs, .int v0_pieces, .int v0_inRun]))] s.heap.size = A at hD ⊢
  have hA : ∀ q : Nat, s.heap.size ≤ q → A q := fun q h => by rw [← hAe]; exact Or.inr h
  have l32 := zat hts 1 (w := .fieldLink RX1 32 "TurnedWords$Cut" "runs" "I") rfl
  have hwX1 : ∀ w ∈ u_ws RX1 TX1 9, w ∈ wsX1_hasRun := fun w h => List.mem_cons_of_mem _ (List.mem_append_right _ h)
  have hl := lv_entry ([.ref a0, .int p1]) (n := 2) (Nat.le_of_ble_eq_true rfl)
  rw [lg_entry_eq]
  generalize (lg_sl ([.ref a0, .int p1]) ++ List.replicate (2 - (lg_sl ([.ref a0, .int p1])).length) Slot.unset).toArray = ls at hl ⊢
  have hl : lv_has ls 2 [(0, .ref a0), (1, .int p1)] := hl
  refine zStart (A := A) hP (fun Q0 H locs hQ hP hS => ?_)
  unfold fX1_hasRun at hf
  refine lv_iload_n hx hb dX1_hasRun_0 rfl (lv_at hl 1 rfl) ?_
  refine lv_if_lt (tgt := 16) hx hb dX1_hasRun_1 (by decide) (fun c_1 => ?_) (fun c_1 => ?_)
  · replace hf := ip c_1 hf
    refine lv_iconst (v := 0) hx hb dX1_hasRun_16 (by decide) ?_
    have he := Option.some.inj hf
    rw [hQ]
    exact W.zret (v := (0 : Int32)) hx hb hr (znb (Or.inl rfl)) (fun t ht hW => by rw [← he]; exact ⟨⟨(0 : Int32), (), rfl, ⟨rfl, Or.inl rfl⟩, by rw [ht]; exact hP, hD⟩, hS.F ht⟩) hS.2.2 dX1_hasRun_17
  · replace hf := im c_1 hf
    refine lv_iload_n hx hb dX1_hasRun_4 rfl (lv_at hl 1 rfl) ?_
    refine lv_aload_n hx hb dX1_hasRun_5 rfl (lv_at hl 0 rfl) ?_
    refine va_get (D := D.1) (ci := 0) (v := .int v0_runs) (C := RX1) (T := TX1) (N := 9) hx hb hts hwX1 hown hK.1 hP 0 rfl rfl 6 (by decide) l32 (fun _ h9 => h9) rfl dX1_hasRun_6 ?_
    refine lv_icmp_ge (tgt := 16) hx hb dX1_hasRun_9 (by decide) (fun c_2 => ?_) (fun c_2 => ?_)
    · replace hf := ip c_2 hf
      refine lv_iconst (v := 0) hx hb dX1_hasRun_16 (by decide) ?_
      have he := Option.some.inj hf
      rw [hQ]
      exact W.zret (v := (0 : Int32)) hx hb hr (znb (Or.inl rfl)) (fun t ht hW => by rw [← he]; exact ⟨⟨(0 : Int32), (), rfl, ⟨rfl, Or.inl rfl⟩, by rw [ht]; exact hP, hD⟩, hS.F ht⟩) hS.2.2 dX1_hasRun_17
    · replace hf := im c_2 hf
      refine lv_iconst (v := 1) hx hb dX1_hasRun_12 (by decide) ?_
      refine lv_goto (tgt := 17) hx hb dX1_hasRun_13 (by decide) ?_
      have he := Option.some.inj hf
      rw [hQ]
      exact W.zret (v := (1 : Int32)) hx hb hr (znb (Or.inr rfl)) (fun t ht hW => by rw [← he]; exact ⟨⟨(1 : Int32), (), rfl, ⟨rfl, Or.inr rfl⟩, by rw [ht]; exact hP, hD⟩, hS.F ht⟩) hS.2.2 dX1_hasRun_17
def fX1_lengthOf (v0_runs : Int32) (g0_lengths : Nat → Int32) (p1 : Int32) : Option (Int32) :=
  Option.bind (fX1_hasRun v0_runs p1) fun r1 =>
  if r1 = (0 : Int32) then
    some ((0 : Int32))
  else
    if p1 < 0 ∨ 13 ≤ (p1).toNatClampNeg then none else
    some ((g0_lengths (p1).toNatClampNeg))
set_option maxHeartbeats 4000000 in
set_option maxRecDepth 100000 in
theorem mX1_lengthOf (l : Launch) (D : zG) (a0 : Nat) (a0_signs : Nat) (a0_starts : Nat) (a0_lengths : Nat) (a0_piecesOfRuns : Nat) (a0_heads : Nat) (sz : Nat)  (v0_size : Int32) (v0_runs : Int32) (v0_pieces : Int32) (v0_inRun : Int32) (g0_lengths : Nat → Int32) (p1 : Int32) (res : Int32) (hf : fX1_lengthOf v0_runs g0_lengths p1 = some res) : Met l yX1_lengthOf wsX1_lengthOf ({ frames := 1, cells := 0, slots := 0, locals := 21 } : Room) (va_Pc [.ref a0, .int p1] (zW D sz [(a0, .inr (0, [.ref a0_signs, .ref a0_starts, .ref a0_lengths, .ref a0_piecesOfRuns, .ref a0_heads, .int v0_size, .int v0_runs, .int v0_pieces, .int v0_inRun])), (a0_lengths, .inl (D.2 1, 13, .inl g0_lengths))])) (va_Qi (fun r (_ : Unit) => r = res) (fun _ => zB D (va_A [(a0, .inr (0, [.ref a0_signs, .ref a0_starts, .ref a0_lengths, .ref a0_piecesOfRuns, .ref a0_heads, .int v0_size, .int v0_runs, .int v0_pieces, .int v0_inRun])), (a0_lengths, .inl (D.2 1, 13, .inl g0_lengths))] sz) [(a0, .inr (0, [.ref a0_signs, .ref a0_starts, .ref a0_lengths, .ref a0_piecesOfRuns, .ref a0_heads, .int v0_size, .int v0_runs, .int v0_pieces, .int v0_inRun])), (a0_lengths, .inl (D.2 1, 13, .inl g0_lengths))]) (va_A [(a0, .inr (0, [.ref a0_signs, .ref a0_starts, .ref a0_lengths, .ref a0_piecesOfRuns, .ref a0_heads, .int v0_size, .int v0_runs, .int v0_pieces, .int v0_inRun])), (a0_lengths, .inl (D.2 1, 13, .inl g0_lengths))] sz)) 0 0 (va_A [(a0, .inr (0, [.ref a0_signs, .ref a0_starts, .ref a0_lengths, .ref a0_piecesOfRuns, .ref a0_heads, .int v0_size, .int v0_runs, .int v0_pieces, .int v0_inRun])), (a0_lengths, .inl (D.2 1, 13, .inl g0_lengths))] sz) := by
  refine Met.ofW (cc := cX1_lengthOf) (maxL := 2) (ret := (some .int)) (by decide) rfl ?_
  intro p e s m args below meth c s₁ B hml hv
  obtain ⟨rfl, hsz, hP, hK, hD0⟩ := hv
  have hx := B.exec
  have hb := B.bytes
  have hr := B.returns
  have hts := atoms_spec (ws := wsX1_lengthOf) B.pre
  have hown : s.vm.findClass RX1 = some m.cls := findClass_of_methodNamed B.named
  have hlocks := B.notSynchronized
  subst hsz
  have hD := hD0.self (sz := s.heap.size)
  generalize hAe : va_A [(a0, .inr (0, [.ref a0_signs, .ref a0_starts, .ref a0_lengths, .ref a0_piecesOfRuns, .ref a0_heads, .int v0_size, .int v0_runs, .int v0_pieces, .int v0_inRun])), (a0_lengths, .inl (D.2 1, 13, .inl g0_lengths))] s.heap.size = A at hD ⊢
  have hA : ∀ q : Nat, s.heap.size ≤ q → A q := fun q h => by rw [← hAe]; exact Or.inr h
  have l18 := zat hts 1 (w := .fieldLink RX1 18 "TurnedWords$Cut" "lengths" "[I") rfl
  have hwX1 : ∀ w ∈ u_ws RX1 TX1 9, w ∈ wsX1_lengthOf := fun w h => List.mem_cons_of_mem _ (List.mem_append_right _ h)
  have hl := lv_entry ([.ref a0, .int p1]) (n := 2) (Nat.le_of_ble_eq_true rfl)
  rw [lg_entry_eq]
  generalize (lg_sl ([.ref a0, .int p1]) ++ List.replicate (2 - (lg_sl ([.ref a0, .int p1])).length) Slot.unset).toArray = ls at hl ⊢
  have hl : lv_has ls 2 [(0, .ref a0), (1, .int p1)] := hl
  refine zStart (A := A) hP (fun Q0 H locs hQ hP hS => ?_)
  unfold fX1_lengthOf at hf
  refine lv_aload_n hx hb dX1_lengthOf_0 rfl (lv_at hl 0 rfl) ?_
  refine lv_iload_n hx hb dX1_lengthOf_1 rfl (lv_at hl 1 rfl) ?_
  obtain ⟨r1, hr1, hf⟩ := bd hf
  refine zVz (As := [.int p1]) (rest := []) (ci := 0) (q0 := 0) (wn := [(a0, .inr (0, [.ref a0_signs, .ref a0_starts, .ref a0_lengths, .ref a0_piecesOfRuns, .ref a0_heads, .int v0_size, .int v0_runs, .int v0_pieces, .int v0_inRun])), (a0_lengths, .inl (D.2 1, 13, .inl g0_lengths))]) ⟨hx, hb, hml, hown, hts⟩ (mX1_hasRun l D a0 a0_signs a0_starts a0_lengths a0_piecesOfRuns a0_heads H.size v0_size v0_runs v0_pieces v0_inRun p1 r1 hr1) (cwV 1 hts gX1_lengthOf_X1_hasRun rfl rfl rfl (by decide +kernel) ⟨Nat.le_of_ble_eq_true rfl, Nat.le_of_ble_eq_true rfl⟩) hK hP hD hS hA [0] [1] [1, 0] rfl (by decide) rfl (by decide) (by decide) rfl (by decide) rfl rfl rfl hl.1 rfl (Nat.le_of_ble_eq_true rfl) dX1_lengthOf_2 ⟨Nat.zero_le _, Nat.zero_le _⟩ (fun H locs hb_2 hP hD hS => ?_)
  refine lv_if_eq (tgt := 17) hx hb dX1_lengthOf_5 (by decide) (fun c_3 => ?_) (fun c_3 => ?_)
  · replace hf := ip c_3 hf
    refine lv_iconst (v := 0) hx hb dX1_lengthOf_17 (by decide) ?_
    have he := Option.some.inj hf
    rw [hQ]
    exact W.iret (v := (0 : Int32)) hx hb hr (fun t ht hW => by rw [← he]; exact ⟨⟨(0 : Int32), (), rfl, rfl, by rw [ht]; exact hP, hD⟩, hS.F ht⟩) hS.2.2 dX1_lengthOf_18
  · replace hf := im c_3 hf
    refine lv_aload_n hx hb dX1_lengthOf_8 rfl (lv_at hl 0 rfl) ?_
    refine va_get (D := D.1) (ci := 0) (v := .ref a0_lengths) (C := RX1) (T := TX1) (N := 9) hx hb hts hwX1 hown hK.1 hP 0 rfl rfl 2 (by decide) l18 (fun _ h9 => h9) rfl dX1_lengthOf_9 ?_
    refine lv_iload_n hx hb dX1_lengthOf_12 rfl (lv_at hl 1 rfl) ?_
    obtain ⟨h_4, hf⟩ := gd hf
    refine va_iald hx hb hK.1 hP 1 1 rfl rfl h_4 dX1_lengthOf_13 ?_
    refine lv_goto (tgt := 18) hx hb dX1_lengthOf_14 (by decide) ?_
    have he := Option.some.inj hf
    rw [hQ]
    exact W.iret (v := (g0_lengths (p1).toNatClampNeg)) hx hb hr (fun t ht hW => by rw [← he]; exact ⟨⟨(g0_lengths (p1).toNatClampNeg), (), rfl, rfl, by rw [ht]; exact hP, hD⟩, hS.F ht⟩) hS.2.2 dX1_lengthOf_18
def fX1_pieceOf (v0_runs : Int32) (g0_piecesOfRuns : Nat → Int32) (p1 : Int32) : Option (Int32) :=
  Option.bind (fX1_hasRun v0_runs p1) fun r1 =>
  if r1 = (0 : Int32) then
    some ((-1 : Int32))
  else
    if p1 < 0 ∨ 13 ≤ (p1).toNatClampNeg then none else
    some ((g0_piecesOfRuns (p1).toNatClampNeg))
set_option maxHeartbeats 4000000 in
set_option maxRecDepth 100000 in
theorem mX1_pieceOf (l : Launch) (D : zG) (a0 : Nat) (a0_signs : Nat) (a0_starts : Nat) (a0_lengths : Nat) (a0_piecesOfRuns : Nat) (a0_heads : Nat) (sz : Nat)  (v0_size : Int32) (v0_runs : Int32) (v0_pieces : Int32) (v0_inRun : Int32) (g0_piecesOfRuns : Nat → Int32) (p1 : Int32) (res : Int32) (hf : fX1_pieceOf v0_runs g0_piecesOfRuns p1 = some res) : Met l yX1_pieceOf wsX1_pieceOf ({ frames := 1, cells := 0, slots := 0, locals := 21 } : Room) (va_Pc [.ref a0, .int p1] (zW D sz [(a0, .inr (0, [.ref a0_signs, .ref a0_starts, .ref a0_lengths, .ref a0_piecesOfRuns, .ref a0_heads, .int v0_size, .int v0_runs, .int v0_pieces, .int v0_inRun])), (a0_piecesOfRuns, .inl (D.2 1, 13, .inl g0_piecesOfRuns))])) (va_Qi (fun r (_ : Unit) => r = res) (fun _ => zB D (va_A [(a0, .inr (0, [.ref a0_signs, .ref a0_starts, .ref a0_lengths, .ref a0_piecesOfRuns, .ref a0_heads, .int v0_size, .int v0_runs, .int v0_pieces, .int v0_inRun])), (a0_piecesOfRuns, .inl (D.2 1, 13, .inl g0_piecesOfRuns))] sz) [(a0, .inr (0, [.ref a0_signs, .ref a0_starts, .ref a0_lengths, .ref a0_piecesOfRuns, .ref a0_heads, .int v0_size, .int v0_runs, .int v0_pieces, .int v0_inRun])), (a0_piecesOfRuns, .inl (D.2 1, 13, .inl g0_piecesOfRuns))]) (va_A [(a0, .inr (0, [.ref a0_signs, .ref a0_starts, .ref a0_lengths, .ref a0_piecesOfRuns, .ref a0_heads, .int v0_size, .int v0_runs, .int v0_pieces, .int v0_inRun])), (a0_piecesOfRuns, .inl (D.2 1, 13, .inl g0_piecesOfRuns))] sz)) 0 0 (va_A [(a0, .inr (0, [.ref a0_signs, .ref a0_starts, .ref a0_lengths, .ref a0_piecesOfRuns, .ref a0_heads, .int v0_size, .int v0_runs, .int v0_pieces, .int v0_inRun])), (a0_piecesOfRuns, .inl (D.2 1, 13, .inl g0_piecesOfRuns))] sz) := by
  refine Met.ofW (cc := cX1_pieceOf) (maxL := 2) (ret := (some .int)) (by decide) rfl ?_
  intro p e s m args below meth c s₁ B hml hv
  obtain ⟨rfl, hsz, hP, hK, hD0⟩ := hv
  have hx := B.exec
  have hb := B.bytes
  have hr := B.returns
  have hts := atoms_spec (ws := wsX1_pieceOf) B.pre
  have hown : s.vm.findClass RX1 = some m.cls := findClass_of_methodNamed B.named
  have hlocks := B.notSynchronized
  subst hsz
  have hD := hD0.self (sz := s.heap.size)
  generalize hAe : va_A [(a0, .inr (0, [.ref a0_signs, .ref a0_starts, .ref a0_lengths, .ref a0_piecesOfRuns, .ref a0_heads, .int v0_size, .int v0_runs, .int v0_pieces, .int v0_inRun])), (a0_piecesOfRuns, .inl (D.2 1, 13, .inl g0_piecesOfRuns))] s.heap.size = A at hD ⊢
  have hA : ∀ q : Nat, s.heap.size ≤ q → A q := fun q h => by rw [← hAe]; exact Or.inr h
  have l21 := zat hts 1 (w := .fieldLink RX1 21 "TurnedWords$Cut" "piecesOfRuns" "[I") rfl
  have hwX1 : ∀ w ∈ u_ws RX1 TX1 9, w ∈ wsX1_pieceOf := fun w h => List.mem_cons_of_mem _ (List.mem_append_right _ h)
  have hl := lv_entry ([.ref a0, .int p1]) (n := 2) (Nat.le_of_ble_eq_true rfl)
  rw [lg_entry_eq]
  generalize (lg_sl ([.ref a0, .int p1]) ++ List.replicate (2 - (lg_sl ([.ref a0, .int p1])).length) Slot.unset).toArray = ls at hl ⊢
  have hl : lv_has ls 2 [(0, .ref a0), (1, .int p1)] := hl
  refine zStart (A := A) hP (fun Q0 H locs hQ hP hS => ?_)
  unfold fX1_pieceOf at hf
  refine lv_aload_n hx hb dX1_pieceOf_0 rfl (lv_at hl 0 rfl) ?_
  refine lv_iload_n hx hb dX1_pieceOf_1 rfl (lv_at hl 1 rfl) ?_
  obtain ⟨r1, hr1, hf⟩ := bd hf
  refine zVz (As := [.int p1]) (rest := []) (ci := 0) (q0 := 0) (wn := [(a0, .inr (0, [.ref a0_signs, .ref a0_starts, .ref a0_lengths, .ref a0_piecesOfRuns, .ref a0_heads, .int v0_size, .int v0_runs, .int v0_pieces, .int v0_inRun])), (a0_piecesOfRuns, .inl (D.2 1, 13, .inl g0_piecesOfRuns))]) ⟨hx, hb, hml, hown, hts⟩ (mX1_hasRun l D a0 a0_signs a0_starts a0_lengths a0_piecesOfRuns a0_heads H.size v0_size v0_runs v0_pieces v0_inRun p1 r1 hr1) (cwV 1 hts gX1_pieceOf_X1_hasRun rfl rfl rfl (by decide +kernel) ⟨Nat.le_of_ble_eq_true rfl, Nat.le_of_ble_eq_true rfl⟩) hK hP hD hS hA [0] [1] [1, 0] rfl (by decide) rfl (by decide) (by decide) rfl (by decide) rfl rfl rfl hl.1 rfl (Nat.le_of_ble_eq_true rfl) dX1_pieceOf_2 ⟨Nat.zero_le _, Nat.zero_le _⟩ (fun H locs hb_2 hP hD hS => ?_)
  refine lv_if_eq (tgt := 17) hx hb dX1_pieceOf_5 (by decide) (fun c_3 => ?_) (fun c_3 => ?_)
  · replace hf := ip c_3 hf
    refine lv_iconst (v := -1) hx hb dX1_pieceOf_17 (by decide) ?_
    have he := Option.some.inj hf
    rw [hQ]
    exact W.iret (v := (-1 : Int32)) hx hb hr (fun t ht hW => by rw [← he]; exact ⟨⟨(-1 : Int32), (), rfl, rfl, by rw [ht]; exact hP, hD⟩, hS.F ht⟩) hS.2.2 dX1_pieceOf_18
  · replace hf := im c_3 hf
    refine lv_aload_n hx hb dX1_pieceOf_8 rfl (lv_at hl 0 rfl) ?_
    refine va_get (D := D.1) (ci := 0) (v := .ref a0_piecesOfRuns) (C := RX1) (T := TX1) (N := 9) hx hb hts hwX1 hown hK.1 hP 0 rfl rfl 3 (by decide) l21 (fun _ h9 => h9) rfl dX1_pieceOf_9 ?_
    refine lv_iload_n hx hb dX1_pieceOf_12 rfl (lv_at hl 1 rfl) ?_
    obtain ⟨h_4, hf⟩ := gd hf
    refine va_iald hx hb hK.1 hP 1 1 rfl rfl h_4 dX1_pieceOf_13 ?_
    refine lv_goto (tgt := 18) hx hb dX1_pieceOf_14 (by decide) ?_
    have he := Option.some.inj hf
    rw [hQ]
    exact W.iret (v := (g0_piecesOfRuns (p1).toNatClampNeg)) hx hb hr (fun t ht hW => by rw [← he]; exact ⟨⟨(g0_piecesOfRuns (p1).toNatClampNeg), (), rfl, rfl, by rw [ht]; exact hP, hD⟩, hS.F ht⟩) hS.2.2 dX1_pieceOf_18
def fX1_headOf (v0_runs : Int32) (g0_heads : Nat → Int64) (p1 : Int32) : Option (Int64) :=
  Option.bind (fX1_hasRun v0_runs p1) fun r1 =>
  if r1 = (0 : Int32) then
    some ((0 : Int64))
  else
    if p1 < 0 ∨ 13 ≤ (p1).toNatClampNeg then none else
    some ((g0_heads (p1).toNatClampNeg))
set_option maxHeartbeats 4000000 in
set_option maxRecDepth 100000 in
theorem mX1_headOf (l : Launch) (D : zG) (a0 : Nat) (a0_signs : Nat) (a0_starts : Nat) (a0_lengths : Nat) (a0_piecesOfRuns : Nat) (a0_heads : Nat) (sz : Nat)  (v0_size : Int32) (v0_runs : Int32) (v0_pieces : Int32) (v0_inRun : Int32) (g0_heads : Nat → Int64) (p1 : Int32) (res : Int64) (hf : fX1_headOf v0_runs g0_heads p1 = some res) : Met l yX1_headOf wsX1_headOf ({ frames := 1, cells := 0, slots := 0, locals := 21 } : Room) (va_Pc [.ref a0, .int p1] (zW D sz [(a0, .inr (0, [.ref a0_signs, .ref a0_starts, .ref a0_lengths, .ref a0_piecesOfRuns, .ref a0_heads, .int v0_size, .int v0_runs, .int v0_pieces, .int v0_inRun])), (a0_heads, .inl (D.2 2, 13, .inr (.inl g0_heads)))])) (va_Ql (fun r (_ : Unit) => r = res) (fun _ => zB D (va_A [(a0, .inr (0, [.ref a0_signs, .ref a0_starts, .ref a0_lengths, .ref a0_piecesOfRuns, .ref a0_heads, .int v0_size, .int v0_runs, .int v0_pieces, .int v0_inRun])), (a0_heads, .inl (D.2 2, 13, .inr (.inl g0_heads)))] sz) [(a0, .inr (0, [.ref a0_signs, .ref a0_starts, .ref a0_lengths, .ref a0_piecesOfRuns, .ref a0_heads, .int v0_size, .int v0_runs, .int v0_pieces, .int v0_inRun])), (a0_heads, .inl (D.2 2, 13, .inr (.inl g0_heads)))]) (va_A [(a0, .inr (0, [.ref a0_signs, .ref a0_starts, .ref a0_lengths, .ref a0_piecesOfRuns, .ref a0_heads, .int v0_size, .int v0_runs, .int v0_pieces, .int v0_inRun])), (a0_heads, .inl (D.2 2, 13, .inr (.inl g0_heads)))] sz)) 0 0 (va_A [(a0, .inr (0, [.ref a0_signs, .ref a0_starts, .ref a0_lengths, .ref a0_piecesOfRuns, .ref a0_heads, .int v0_size, .int v0_runs, .int v0_pieces, .int v0_inRun])), (a0_heads, .inl (D.2 2, 13, .inr (.inl g0_heads)))] sz) := by
  refine Met.ofW (cc := cX1_headOf) (maxL := 2) (ret := (some .long)) (by decide) rfl ?_
  intro p e s m args below meth c s₁ B hml hv
  obtain ⟨rfl, hsz, hP, hK, hD0⟩ := hv
  have hx := B.exec
  have hb := B.bytes
  have hr := B.returns
  have hts := atoms_spec (ws := wsX1_headOf) B.pre
  have hown : s.vm.findClass RX1 = some m.cls := findClass_of_methodNamed B.named
  have hlocks := B.notSynchronized
  subst hsz
  have hD := hD0.self (sz := s.heap.size)
  generalize hAe : va_A [(a0, .inr (0, [.ref a0_signs, .ref a0_starts, .ref a0_lengths, .ref a0_piecesOfRuns, .ref a0_heads, .int v0_size, .int v0_runs, .int v0_pieces, .int v0_inRun])), (a0_heads, .inl (D.2 2, 13, .inr (.inl g0_heads)))] s.heap.size = A at hD ⊢
  have hA : ∀ q : Nat, s.heap.size ≤ q → A q := fun q h => by rw [← hAe]; exact Or.inr h
  have l24 := zat hts 1 (w := .fieldLink RX1 24 "TurnedWords$Cut" "heads" "[J") rfl
  have hwX1 : ∀ w ∈ u_ws RX1 TX1 9, w ∈ wsX1_headOf := fun w h => List.mem_cons_of_mem _ (List.mem_append_right _ h)
  have hl := lv_entry ([.ref a0, .int p1]) (n := 2) (Nat.le_of_ble_eq_true rfl)
  rw [lg_entry_eq]
  generalize (lg_sl ([.ref a0, .int p1]) ++ List.replicate (2 - (lg_sl ([.ref a0, .int p1])).length) Slot.unset).toArray = ls at hl ⊢
  have hl : lv_has ls 2 [(0, .ref a0), (1, .int p1)] := hl
  refine zStart (A := A) hP (fun Q0 H locs hQ hP hS => ?_)
  unfold fX1_headOf at hf
  refine lv_aload_n hx hb dX1_headOf_0 rfl (lv_at hl 0 rfl) ?_
  refine lv_iload_n hx hb dX1_headOf_1 rfl (lv_at hl 1 rfl) ?_
  obtain ⟨r1, hr1, hf⟩ := bd hf
  refine zVz (As := [.int p1]) (rest := []) (ci := 0) (q0 := 0) (wn := [(a0, .inr (0, [.ref a0_signs, .ref a0_starts, .ref a0_lengths, .ref a0_piecesOfRuns, .ref a0_heads, .int v0_size, .int v0_runs, .int v0_pieces, .int v0_inRun])), (a0_heads, .inl (D.2 2, 13, .inr (.inl g0_heads)))]) ⟨hx, hb, hml, hown, hts⟩ (mX1_hasRun l D a0 a0_signs a0_starts a0_lengths a0_piecesOfRuns a0_heads H.size v0_size v0_runs v0_pieces v0_inRun p1 r1 hr1) (cwV 1 hts gX1_headOf_X1_hasRun rfl rfl rfl (by decide +kernel) ⟨Nat.le_of_ble_eq_true rfl, Nat.le_of_ble_eq_true rfl⟩) hK hP hD hS hA [0] [1] [1, 0] rfl (by decide) rfl (by decide) (by decide) rfl (by decide) rfl rfl rfl hl.1 rfl (Nat.le_of_ble_eq_true rfl) dX1_headOf_2 ⟨Nat.zero_le _, Nat.zero_le _⟩ (fun H locs hb_2 hP hD hS => ?_)
  refine lv_if_eq (tgt := 17) hx hb dX1_headOf_5 (by decide) (fun c_3 => ?_) (fun c_3 => ?_)
  · replace hf := ip c_3 hf
    refine lv_lconst (v := 0) hx hb dX1_headOf_17 (by decide) ?_
    have he := Option.some.inj hf
    rw [hQ]
    exact W.lret (v := (0 : Int64)) hx hb hr (fun t ht hW => by rw [← he]; exact ⟨⟨(0 : Int64), (), rfl, rfl, by rw [ht]; exact hP, hD⟩, hS.F ht⟩) hS.2.2 dX1_headOf_18
  · replace hf := im c_3 hf
    refine lv_aload_n hx hb dX1_headOf_8 rfl (lv_at hl 0 rfl) ?_
    refine va_get (D := D.1) (ci := 0) (v := .ref a0_heads) (C := RX1) (T := TX1) (N := 9) hx hb hts hwX1 hown hK.1 hP 0 rfl rfl 4 (by decide) l24 (fun _ h9 => h9) rfl dX1_headOf_9 ?_
    refine lv_iload_n hx hb dX1_headOf_12 rfl (lv_at hl 1 rfl) ?_
    obtain ⟨h_4, hf⟩ := gd hf
    refine va_lald hx hb hK.1 hP 1 2 rfl rfl h_4 dX1_headOf_13 ?_
    refine lv_goto (tgt := 18) hx hb dX1_headOf_14 (by decide) ?_
    have he := Option.some.inj hf
    rw [hQ]
    exact W.lret (v := (g0_heads (p1).toNatClampNeg)) hx hb hr (fun t ht hW => by rw [← he]; exact ⟨⟨(g0_heads (p1).toNatClampNeg), (), rfl, rfl, by rw [ht]; exact hP, hD⟩, hS.F ht⟩) hS.2.2 dX1_headOf_18
def fX1_signOf (v0_runs : Int32) (g0_signs : Nat → Int32) (g0_starts : Nat → Int32) (g0_lengths : Nat → Int32) (p1 : Int32) (p2 : Int32) : Option (Int32) :=
  if p2 < (0 : Int32) then
    some ((-1 : Int32))
  else
    Option.bind (fX1_lengthOf v0_runs g0_lengths p1) fun r2 =>
    if p2 < r2 then
      if p1 < 0 ∨ 13 ≤ (p1).toNatClampNeg then none else
      if ((g0_starts (p1).toNatClampNeg) + p2) < 0 ∨ 13 ≤ (((g0_starts (p1).toNatClampNeg) + p2)).toNatClampNeg then none else
      some ((g0_signs (((g0_starts (p1).toNatClampNeg) + p2)).toNatClampNeg))
    else
      some ((-1 : Int32))
set_option maxHeartbeats 4000000 in
set_option maxRecDepth 100000 in
theorem mX1_signOf (l : Launch) (D : zG) (a0 : Nat) (a0_signs : Nat) (a0_starts : Nat) (a0_lengths : Nat) (a0_piecesOfRuns : Nat) (a0_heads : Nat) (sz : Nat)  (v0_size : Int32) (v0_runs : Int32) (v0_pieces : Int32) (v0_inRun : Int32) (g0_signs : Nat → Int32) (g0_starts : Nat → Int32) (g0_lengths : Nat → Int32) (p1 : Int32) (p2 : Int32) (res : Int32) (hf : fX1_signOf v0_runs g0_signs g0_starts g0_lengths p1 p2 = some res) : Met l yX1_signOf wsX1_signOf ({ frames := 2, cells := 0, slots := 0, locals := 42 } : Room) (va_Pc [.ref a0, .int p1, .int p2] (zW D sz [(a0, .inr (0, [.ref a0_signs, .ref a0_starts, .ref a0_lengths, .ref a0_piecesOfRuns, .ref a0_heads, .int v0_size, .int v0_runs, .int v0_pieces, .int v0_inRun])), (a0_signs, .inl (D.2 1, 13, .inl g0_signs)), (a0_starts, .inl (D.2 1, 13, .inl g0_starts)), (a0_lengths, .inl (D.2 1, 13, .inl g0_lengths))])) (va_Qi (fun r (_ : Unit) => r = res) (fun _ => zB D (va_A [(a0, .inr (0, [.ref a0_signs, .ref a0_starts, .ref a0_lengths, .ref a0_piecesOfRuns, .ref a0_heads, .int v0_size, .int v0_runs, .int v0_pieces, .int v0_inRun])), (a0_signs, .inl (D.2 1, 13, .inl g0_signs)), (a0_starts, .inl (D.2 1, 13, .inl g0_starts)), (a0_lengths, .inl (D.2 1, 13, .inl g0_lengths))] sz) [(a0, .inr (0, [.ref a0_signs, .ref a0_starts, .ref a0_lengths, .ref a0_piecesOfRuns, .ref a0_heads, .int v0_size, .int v0_runs, .int v0_pieces, .int v0_inRun])), (a0_signs, .inl (D.2 1, 13, .inl g0_signs)), (a0_starts, .inl (D.2 1, 13, .inl g0_starts)), (a0_lengths, .inl (D.2 1, 13, .inl g0_lengths))]) (va_A [(a0, .inr (0, [.ref a0_signs, .ref a0_starts, .ref a0_lengths, .ref a0_piecesOfRuns, .ref a0_heads, .int v0_size, .int v0_runs, .int v0_pieces, .int v0_inRun])), (a0_signs, .inl (D.2 1, 13, .inl g0_signs)), (a0_starts, .inl (D.2 1, 13, .inl g0_starts)), (a0_lengths, .inl (D.2 1, 13, .inl g0_lengths))] sz)) 0 0 (va_A [(a0, .inr (0, [.ref a0_signs, .ref a0_starts, .ref a0_lengths, .ref a0_piecesOfRuns, .ref a0_heads, .int v0_size, .int v0_runs, .int v0_pieces, .int v0_inRun])), (a0_signs, .inl (D.2 1, 13, .inl g0_signs)), (a0_starts, .inl (D.2 1, 13, .inl g0_starts)), (a0_lengths, .inl (D.2 1, 13, .inl g0_lengths))] sz) := by
  refine Met.ofW (cc := cX1_signOf) (maxL := 3) (ret := (some .int)) (by decide) rfl ?_
  intro p e s m args below meth c s₁ B hml hv
  obtain ⟨rfl, hsz, hP, hK, hD0⟩ := hv
  have hx := B.exec
  have hb := B.bytes
  have hr := B.returns
  have hts := atoms_spec (ws := wsX1_signOf) B.pre
  have hown : s.vm.findClass RX1 = some m.cls := findClass_of_methodNamed B.named
  have hlocks := B.notSynchronized
  subst hsz
  have hD := hD0.self (sz := s.heap.size)
  generalize hAe : va_A [(a0, .inr (0, [.ref a0_signs, .ref a0_starts, .ref a0_lengths, .ref a0_piecesOfRuns, .ref a0_heads, .int v0_size, .int v0_runs, .int v0_pieces, .int v0_inRun])), (a0_signs, .inl (D.2 1, 13, .inl g0_signs)), (a0_starts, .inl (D.2 1, 13, .inl g0_starts)), (a0_lengths, .inl (D.2 1, 13, .inl g0_lengths))] s.heap.size = A at hD ⊢
  have hA : ∀ q : Nat, s.heap.size ≤ q → A q := fun q h => by rw [← hAe]; exact Or.inr h
  have l9 := zat hts 1 (w := .fieldLink RX1 9 "TurnedWords$Cut" "signs" "[I") rfl
  have l15 := zat hts 2 (w := .fieldLink RX1 15 "TurnedWords$Cut" "starts" "[I") rfl
  have hwX1 : ∀ w ∈ u_ws RX1 TX1 9, w ∈ wsX1_signOf := fun w h => List.mem_cons_of_mem _ (List.mem_append_right _ h)
  have hl := lv_entry ([.ref a0, .int p1, .int p2]) (n := 3) (Nat.le_of_ble_eq_true rfl)
  rw [lg_entry_eq]
  generalize (lg_sl ([.ref a0, .int p1, .int p2]) ++ List.replicate (3 - (lg_sl ([.ref a0, .int p1, .int p2])).length) Slot.unset).toArray = ls at hl ⊢
  have hl : lv_has ls 3 [(0, .ref a0), (1, .int p1), (2, .int p2)] := hl
  refine zStart (A := A) hP (fun Q0 H locs hQ hP hS => ?_)
  unfold fX1_signOf at hf
  refine lv_iload_n hx hb dX1_signOf_0 rfl (lv_at hl 2 rfl) ?_
  refine lv_if_lt (tgt := 13) hx hb dX1_signOf_1 (by decide) (fun c_1 => ?_) (fun c_1 => ?_)
  · replace hf := ip c_1 hf
    refine lv_iconst (v := -1) hx hb dX1_signOf_13 (by decide) ?_
    refine lv_goto (tgt := 30) hx hb dX1_signOf_14 (by decide) ?_
    have he := Option.some.inj hf
    rw [hQ]
    exact W.iret (v := (-1 : Int32)) hx hb hr (fun t ht hW => by rw [← he]; exact ⟨⟨(-1 : Int32), (), rfl, rfl, by rw [ht]; exact hP, hD⟩, hS.F ht⟩) hS.2.2 dX1_signOf_30
  · replace hf := im c_1 hf
    refine lv_iload_n hx hb dX1_signOf_4 rfl (lv_at hl 2 rfl) ?_
    refine lv_aload_n hx hb dX1_signOf_5 rfl (lv_at hl 0 rfl) ?_
    refine lv_iload_n hx hb dX1_signOf_6 rfl (lv_at hl 1 rfl) ?_
    obtain ⟨r2, hr2, hf⟩ := bd hf
    refine zVi (As := [.int p1]) (rest := [.int p2]) (ci := 0) (q0 := 0) (wn := [(a0, .inr (0, [.ref a0_signs, .ref a0_starts, .ref a0_lengths, .ref a0_piecesOfRuns, .ref a0_heads, .int v0_size, .int v0_runs, .int v0_pieces, .int v0_inRun])), (a0_signs, .inl (D.2 1, 13, .inl g0_signs)), (a0_starts, .inl (D.2 1, 13, .inl g0_starts)), (a0_lengths, .inl (D.2 1, 13, .inl g0_lengths))]) ⟨hx, hb, hml, hown, hts⟩ (mX1_lengthOf l D a0 a0_signs a0_starts a0_lengths a0_piecesOfRuns a0_heads H.size v0_size v0_runs v0_pieces v0_inRun g0_lengths p1 r2 hr2) (cwV 1 hts gX1_signOf_X1_lengthOf rfl rfl rfl (by decide +kernel) ⟨Nat.le_of_ble_eq_true rfl, Nat.le_of_ble_eq_true rfl⟩) hK hP hD hS hA [0, 3] [1, 2] [2, 0, 1, 3] rfl (by decide) rfl (by decide) (by decide) rfl (by decide) rfl rfl rfl hl.1 rfl (Nat.le_of_ble_eq_true rfl) dX1_signOf_7 ⟨Nat.zero_le _, Nat.zero_le _⟩ (fun H locs hP hD hS => ?_)
    refine lv_icmp_lt (tgt := 17) hx hb dX1_signOf_10 (by decide) (fun c_3 => ?_) (fun c_3 => ?_)
    · replace hf := ip c_3 hf
      refine lv_aload_n hx hb dX1_signOf_17 rfl (lv_at hl 0 rfl) ?_
      refine va_get (D := D.1) (ci := 0) (v := .ref a0_signs) (C := RX1) (T := TX1) (N := 9) hx hb hts hwX1 hown hK.1 hP 0 rfl rfl 0 (by decide) l9 (fun _ h9 => h9) rfl dX1_signOf_18 ?_
      refine lv_aload_n hx hb dX1_signOf_21 rfl (lv_at hl 0 rfl) ?_
      refine va_get (D := D.1) (ci := 0) (v := .ref a0_starts) (C := RX1) (T := TX1) (N := 9) hx hb hts hwX1 hown hK.1 hP 0 rfl rfl 1 (by decide) l15 (fun _ h9 => h9) rfl dX1_signOf_22 ?_
      refine lv_iload_n hx hb dX1_signOf_25 rfl (lv_at hl 1 rfl) ?_
      obtain ⟨h_4, hf⟩ := gd hf
      refine va_iald hx hb hK.1 hP 2 1 rfl rfl h_4 dX1_signOf_26 ?_
      refine lv_iload_n hx hb dX1_signOf_27 rfl (lv_at hl 2 rfl) ?_
      refine lv_iadd hx hb dX1_signOf_28 ?_
      obtain ⟨h_5, hf⟩ := gd hf
      refine va_iald hx hb hK.1 hP 1 1 rfl rfl h_5 dX1_signOf_29 ?_
      have he := Option.some.inj hf
      rw [hQ]
      exact W.iret (v := (g0_signs (((g0_starts (p1).toNatClampNeg) + p2)).toNatClampNeg)) hx hb hr (fun t ht hW => by rw [← he]; exact ⟨⟨(g0_signs (((g0_starts (p1).toNatClampNeg) + p2)).toNatClampNeg), (), rfl, rfl, by rw [ht]; exact hP, hD⟩, hS.F ht⟩) hS.2.2 dX1_signOf_30
    · replace hf := im c_3 hf
      refine lv_iconst (v := -1) hx hb dX1_signOf_13 (by decide) ?_
      refine lv_goto (tgt := 30) hx hb dX1_signOf_14 (by decide) ?_
      have he := Option.some.inj hf
      rw [hQ]
      exact W.iret (v := (-1 : Int32)) hx hb hr (fun t ht hW => by rw [← he]; exact ⟨⟨(-1 : Int32), (), rfl, rfl, by rw [ht]; exact hP, hD⟩, hS.F ht⟩) hS.2.2 dX1_signOf_30
def fX2_init  : Option (Int32 × Int32) :=
  some ((0 : Int32), (-1 : Int32))
set_option maxHeartbeats 4000000 in
set_option maxRecDepth 100000 in
theorem mX2_init (l : Launch) (D : zG) (a0 : Nat) (sz : Nat)    (res : Int32 × Int32) (hf : fX2_init = some res) : Met l yX2_init wsX2_init ({ frames := 1, cells := 0, slots := 0, locals := 12 } : Room) (va_Pc [.ref a0] (zW D sz [(a0, .inr (1, [.int (0 : Int32), .int (0 : Int32)]))])) (va_Qv (fun (_ : Unit) => True) (fun _ => zB D (va_A [(a0, .inr (1, [.int (0 : Int32), .int (0 : Int32)]))] sz) [(a0, .inr (1, [.int res.1, .int res.2]))]) (va_A [(a0, .inr (1, [.int (0 : Int32), .int (0 : Int32)]))] sz)) 0 0 (va_A [(a0, .inr (1, [.int (0 : Int32), .int (0 : Int32)]))] sz) := by
  refine Met.ofW (cc := cX2_init) (maxL := 1) (ret := none) (by decide) rfl ?_
  intro p e s m args below meth c s₁ B hml hv
  obtain ⟨rfl, hsz, hP, hK, hD0⟩ := hv
  have hx := B.exec
  have hb := B.bytes
  have hr := B.returns
  have hts := atoms_spec (ws := wsX2_init) B.pre
  have hown : s.vm.findClass RX2 = some m.cls := findClass_of_methodNamed B.named
  have hlocks := B.notSynchronized
  have hin : meth.name = "<init>" := (name_of_methodNamed B.named B.method).1
  subst hsz
  have hD := hD0.self (sz := s.heap.size)
  generalize hAe : va_A [(a0, .inr (1, [.int (0 : Int32), .int (0 : Int32)]))] s.heap.size = A at hD ⊢
  have hA : ∀ q : Nat, s.heap.size ≤ q → A q := fun q h => by rw [← hAe]; exact Or.inr h
  have l3 := zat hts 1 (w := .methodLink RX2 3 objectInit) rfl
  have hobji := zat hts 2 (w := .instanceMethod objectInit) rfl
  have hobjc := zat hts 3 (w := .code objectInit ⟨#[0xb1]⟩ 1 none) rfl
  have l11 := zat hts 4 (w := .fieldLink RX2 11 "TurnedWords$Fault" "kind" "I") rfl
  have l15 := zat hts 5 (w := .fieldLink RX2 15 "TurnedWords$Fault" "place" "I") rfl
  have hwX2 : ∀ w ∈ u_ws RX2 TX2 2, w ∈ wsX2_init := fun w h => List.mem_cons_of_mem _ (List.mem_append_right _ h)
  have hl := lv_entry ([.ref a0]) (n := 1) (Nat.le_of_ble_eq_true rfl)
  rw [lg_entry_eq]
  generalize (lg_sl ([.ref a0]) ++ List.replicate (1 - (lg_sl ([.ref a0])).length) Slot.unset).toArray = ls at hl ⊢
  have hl : lv_has ls 1 [(0, .ref a0)] := hl
  refine zStart (A := A) hP (fun Q0 H locs hQ hP hS => ?_)
  unfold fX2_init at hf
  refine lv_aload_n hx hb dX2_init_0 rfl (lv_at hl 0 rfl) ?_
  refine W.objInit hx hb hown l3 hobji hobjc rfl (by rw [hml]; exact hl.1) rfl dX2_init_1 (Nat.le_of_ble_eq_true rfl) (Nat.le_of_ble_eq_true rfl) ?_
  refine W.eq (g2 := F0 m 4 ls []) rfl ?_
  refine lv_aload_n hx hb dX2_init_4 rfl (lv_at hl 0 rfl) ?_
  refine lv_iconst (v := 0) hx hb dX2_init_5 (by decide) ?_
  refine va_put (D := D.1) (ci := 1) (v := .int (0 : Int32)) (ty := .int) (C := RX2) (T := TX2) (N := 2) hx hb hts hwX2 tyX2 tyX2_ok nmX2 hown hK.1 hP hD hS 0 rfl rfl 0 (by decide) l11 (fun _ h9 => h9) rfl (by decide +kernel) rfl rfl (Nat.le_of_ble_eq_true rfl) dX2_init_6 (fun H locs hP hD hS => ?_)
  have hP : va_P D.1 vwCl [(a0, .inr (1, [.int (0 : Int32), .int (0 : Int32)]))] H := hP
  have hD : va_D A [(a0, .inr (1, [.int (0 : Int32), .int (0 : Int32)]))] := hD
  refine lv_aload_n hx hb dX2_init_9 rfl (lv_at hl 0 rfl) ?_
  refine lv_iconst (v := -1) hx hb dX2_init_10 (by decide) ?_
  refine va_put (D := D.1) (ci := 1) (v := .int (-1 : Int32)) (ty := .int) (C := RX2) (T := TX2) (N := 2) hx hb hts hwX2 tyX2 tyX2_ok nmX2 hown hK.1 hP hD hS 0 rfl rfl 1 (by decide) l15 (fun _ h9 => h9) rfl (by decide +kernel) rfl rfl (Nat.le_of_ble_eq_true rfl) dX2_init_11 (fun H locs hP hD hS => ?_)
  have hP : va_P D.1 vwCl [(a0, .inr (1, [.int (0 : Int32), .int (-1 : Int32)]))] H := hP
  have hD : va_D A [(a0, .inr (1, [.int (0 : Int32), .int (-1 : Int32)]))] := hD
  have he := Option.some.inj hf
  rw [hQ]
  exact W.vret hx hb hr (fun t ht hW => by rw [← he]; exact ⟨⟨(), rfl, trivial, by rw [ht]; exact hP, hD⟩, hS.F ht⟩) hS.2.2 dX2_init_14
def fX2_isThere (v0_kind : Int32) : Option (Int32) :=
  if v0_kind = (0 : Int32) then
    some ((0 : Int32))
  else
    some ((1 : Int32))
set_option maxHeartbeats 4000000 in
set_option maxRecDepth 100000 in
theorem mX2_isThere (l : Launch) (D : zG) (a0 : Nat) (sz : Nat)  (v0_kind : Int32) (v0_place : Int32)  (res : Int32) (hf : fX2_isThere v0_kind = some res) : Met l yX2_isThere wsX2_isThere ({ frames := 0, cells := 0, slots := 0, locals := 0 } : Room) (va_Pc [.ref a0] (zW D sz [(a0, .inr (1, [.int v0_kind, .int v0_place]))])) (va_Qi (fun r (_ : Unit) => r = res ∧ (r = 0 ∨ r = 1)) (fun _ => zB D (va_A [(a0, .inr (1, [.int v0_kind, .int v0_place]))] sz) [(a0, .inr (1, [.int v0_kind, .int v0_place]))]) (va_A [(a0, .inr (1, [.int v0_kind, .int v0_place]))] sz)) 0 0 (va_A [(a0, .inr (1, [.int v0_kind, .int v0_place]))] sz) := by
  refine Met.ofW (cc := cX2_isThere) (maxL := 1) (ret := (some .boolean)) (by decide) rfl ?_
  intro p e s m args below meth c s₁ B hml hv
  obtain ⟨rfl, hsz, hP, hK, hD0⟩ := hv
  have hx := B.exec
  have hb := B.bytes
  have hr := B.returns
  have hts := atoms_spec (ws := wsX2_isThere) B.pre
  have hown : s.vm.findClass RX2 = some m.cls := findClass_of_methodNamed B.named
  have hlocks := B.notSynchronized
  subst hsz
  have hD := hD0.self (sz := s.heap.size)
  generalize hAe : va_A [(a0, .inr (1, [.int v0_kind, .int v0_place]))] s.heap.size = A at hD ⊢
  have hA : ∀ q : Nat, s.heap.size ≤ q → A q := fun q h => by rw [← hAe]; exact Or.inr h
  have l11 := zat hts 1 (w := .fieldLink RX2 11 "TurnedWords$Fault" "kind" "I") rfl
  have hwX2 : ∀ w ∈ u_ws RX2 TX2 2, w ∈ wsX2_isThere := fun w h => List.mem_cons_of_mem _ (List.mem_append_right _ h)
  have hl := lv_entry ([.ref a0]) (n := 1) (Nat.le_of_ble_eq_true rfl)
  rw [lg_entry_eq]
  generalize (lg_sl ([.ref a0]) ++ List.replicate (1 - (lg_sl ([.ref a0])).length) Slot.unset).toArray = ls at hl ⊢
  have hl : lv_has ls 1 [(0, .ref a0)] := hl
  refine zStart (A := A) hP (fun Q0 H locs hQ hP hS => ?_)
  unfold fX2_isThere at hf
  refine lv_aload_n hx hb dX2_isThere_0 rfl (lv_at hl 0 rfl) ?_
  refine va_get (D := D.1) (ci := 1) (v := .int v0_kind) (C := RX2) (T := TX2) (N := 2) hx hb hts hwX2 hown hK.1 hP 0 rfl rfl 0 (by decide) l11 (fun _ h9 => h9) rfl dX2_isThere_1 ?_
  refine lv_if_eq (tgt := 11) hx hb dX2_isThere_4 (by decide) (fun c_1 => ?_) (fun c_1 => ?_)
  · replace hf := ip c_1 hf
    refine lv_iconst (v := 0) hx hb dX2_isThere_11 (by decide) ?_
    have he := Option.some.inj hf
    rw [hQ]
    exact W.zret (v := (0 : Int32)) hx hb hr (znb (Or.inl rfl)) (fun t ht hW => by rw [← he]; exact ⟨⟨(0 : Int32), (), rfl, ⟨rfl, Or.inl rfl⟩, by rw [ht]; exact hP, hD⟩, hS.F ht⟩) hS.2.2 dX2_isThere_12
  · replace hf := im c_1 hf
    refine lv_iconst (v := 1) hx hb dX2_isThere_7 (by decide) ?_
    refine lv_goto (tgt := 12) hx hb dX2_isThere_8 (by decide) ?_
    have he := Option.some.inj hf
    rw [hQ]
    exact W.zret (v := (1 : Int32)) hx hb hr (znb (Or.inr rfl)) (fun t ht hW => by rw [← he]; exact ⟨⟨(1 : Int32), (), rfl, ⟨rfl, Or.inr rfl⟩, by rw [ht]; exact hP, hD⟩, hS.F ht⟩) hS.2.2 dX2_isThere_12
def fX2_set_15 (p1 : Int32) (p2 : Int32) (y1 : Int32) (v0_kind : Int32) (v0_place : Int32) : Option (Int32 × Int32) :=
  some (v0_kind, y1)
def fX2_set (v0_kind : Int32) (v0_place : Int32) (p1 : Int32) (p2 : Int32) : Option (Int32 × Int32) :=
  if p1 = (0 : Int32) then
    fX2_set_15 p1 p2 (-1 : Int32) p1 v0_place
  else
    fX2_set_15 p1 p2 p2 p1 v0_place
set_option maxHeartbeats 4000000 in
set_option maxRecDepth 100000 in
theorem mX2_set (l : Launch) (D : zG) (a0 : Nat) (sz : Nat)  (v0_kind : Int32) (v0_place : Int32) (p1 : Int32) (p2 : Int32) (res : Int32 × Int32) (hf : fX2_set v0_kind v0_place p1 p2 = some res) : Met l yX2_set wsX2_set ({ frames := 0, cells := 0, slots := 0, locals := 0 } : Room) (va_Pc [.ref a0, .int p1, .int p2] (zW D sz [(a0, .inr (1, [.int v0_kind, .int v0_place]))])) (va_Qv (fun (_ : Unit) => True) (fun _ => zB D (va_A [(a0, .inr (1, [.int v0_kind, .int v0_place]))] sz) [(a0, .inr (1, [.int res.1, .int res.2]))]) (va_A [(a0, .inr (1, [.int v0_kind, .int v0_place]))] sz)) 0 0 (va_A [(a0, .inr (1, [.int v0_kind, .int v0_place]))] sz) := by
  refine Met.ofW (cc := cX2_set) (maxL := 3) (ret := none) (by decide) rfl ?_
  intro p e s m args below meth c s₁ B hml hv
  obtain ⟨rfl, hsz, hP, hK, hD0⟩ := hv
  have hx := B.exec
  have hb := B.bytes
  have hr := B.returns
  have hts := atoms_spec (ws := wsX2_set) B.pre
  have hown : s.vm.findClass RX2 = some m.cls := findClass_of_methodNamed B.named
  have hlocks := B.notSynchronized
  subst hsz
  have hD := hD0.self (sz := s.heap.size)
  generalize hAe : va_A [(a0, .inr (1, [.int v0_kind, .int v0_place]))] s.heap.size = A at hD ⊢
  have hA : ∀ q : Nat, s.heap.size ≤ q → A q := fun q h => by rw [← hAe]; exact Or.inr h
  have l11 := zat hts 1 (w := .fieldLink RX2 11 "TurnedWords$Fault" "kind" "I") rfl
  have l15 := zat hts 2 (w := .fieldLink RX2 15 "TurnedWords$Fault" "place" "I") rfl
  have hwX2 : ∀ w ∈ u_ws RX2 TX2 2, w ∈ wsX2_set := fun w h => List.mem_cons_of_mem _ (List.mem_append_right _ h)
  have hl := lv_entry ([.ref a0, .int p1, .int p2]) (n := 3) (Nat.le_of_ble_eq_true rfl)
  rw [lg_entry_eq]
  generalize (lg_sl ([.ref a0, .int p1, .int p2]) ++ List.replicate (3 - (lg_sl ([.ref a0, .int p1, .int p2])).length) Slot.unset).toArray = ls at hl ⊢
  have hl : lv_has ls 3 [(0, .ref a0), (1, .int p1), (2, .int p2)] := hl
  refine zStart (A := A) hP (fun Q0 H locs hQ hP hS => ?_)
  have k15 : ∀ (y1 : Int32) (v0_kind : Int32) (v0_place : Int32) (H : Heap) (locs : List Loc) (ls : Array Slot), fX2_set_15 p1 p2 y1 v0_kind v0_place = some res → va_P D.1 vwCl [(a0, .inr (1, [.int v0_kind, .int v0_place]))] H → va_D A [(a0, .inr (1, [.int v0_kind, .int v0_place]))] → va_S A s.heap H locs → lv_has ls 3 [] → W p l e (headSpec wsX2_set ({ frames := 0, cells := 0, slots := 0, locals := 0 } : Room)).room s m ([.ref a0, .int p1, .int p2] : List Value).toArray below meth c H locs 0 0 Q0 (F0 m 15 ls [.int y1, .ref a0]) := by
    intro y1 v0_kind v0_place H locs ls hf hP hD hS hl
    unfold fX2_set_15 at hf
    refine va_put (D := D.1) (ci := 1) (v := .int y1) (ty := .int) (C := RX2) (T := TX2) (N := 2) hx hb hts hwX2 tyX2 tyX2_ok nmX2 hown hK.1 hP hD hS 0 rfl rfl 1 (by decide) l15 (fun _ h9 => h9) rfl (by decide +kernel) rfl rfl (Nat.le_of_ble_eq_true rfl) dX2_set_15 (fun H locs hP hD hS => ?_)
    have hP : va_P D.1 vwCl [(a0, .inr (1, [.int v0_kind, .int y1]))] H := hP
    have hD : va_D A [(a0, .inr (1, [.int v0_kind, .int y1]))] := hD
    have he := Option.some.inj hf
    rw [hQ]
    exact W.vret hx hb hr (fun t ht hW => by rw [← he]; exact ⟨⟨(), rfl, trivial, by rw [ht]; exact hP, hD⟩, hS.F ht⟩) hS.2.2 dX2_set_18
  unfold fX2_set at hf
  refine lv_aload_n hx hb dX2_set_0 rfl (lv_at hl 0 rfl) ?_
  refine lv_iload_n hx hb dX2_set_1 rfl (lv_at hl 1 rfl) ?_
  refine va_put (D := D.1) (ci := 1) (v := .int p1) (ty := .int) (C := RX2) (T := TX2) (N := 2) hx hb hts hwX2 tyX2 tyX2_ok nmX2 hown hK.1 hP hD hS 0 rfl rfl 0 (by decide) l11 (fun _ h9 => h9) rfl (by decide +kernel) rfl rfl (Nat.le_of_ble_eq_true rfl) dX2_set_2 (fun H locs hP hD hS => ?_)
  have hP : va_P D.1 vwCl [(a0, .inr (1, [.int p1, .int v0_place]))] H := hP
  have hD : va_D A [(a0, .inr (1, [.int p1, .int v0_place]))] := hD
  refine lv_aload_n hx hb dX2_set_5 rfl (lv_at hl 0 rfl) ?_
  refine lv_iload_n hx hb dX2_set_6 rfl (lv_at hl 1 rfl) ?_
  refine lv_if_ne (tgt := 14) hx hb dX2_set_7 (by decide) (fun c_1 => ?_) (fun c_1 => ?_)
  · replace hf := im c_1 hf
    refine lv_iload_n hx hb dX2_set_14 rfl (lv_at hl 2 rfl) ?_
    exact k15 p2 p1 v0_place H locs ls hf hP hD hS (lv_sub hl [] rfl)
  · replace hf := ip c_1 hf
    refine lv_iconst (v := -1) hx hb dX2_set_10 (by decide) ?_
    refine lv_goto (tgt := 15) hx hb dX2_set_11 (by decide) ?_
    exact k15 (-1 : Int32) p1 v0_place H locs ls hf hP hD hS (lv_sub hl [] rfl)
def fX7_init_40  : Option (Int32 × (Nat → Int64)) :=
  some ((0 : Int32), (fun _ => (0 : Int64)))
set_option maxHeartbeats 4000000 in
set_option maxRecDepth 100000 in
theorem mX7_init_40 (l : Launch) (D : zG) (a0 : Nat) (sz : Nat)    (res : Int32 × (Nat → Int64)) (hf : fX7_init_40 = some res) : Met l yX7_init wsX7_init ({ frames := 1, cells := 1, slots := 40, locals := 15 } : Room) (va_Pc [.ref a0, .int (40 : Int32)] (zW D sz [(a0, .inr (5, [.null, .int (0 : Int32)]))])) (va_Qv (fun (_ : Nat) => True) (fun u => zB D (va_A [(a0, .inr (5, [.null, .int (0 : Int32)]))] sz) [(a0, .inr (5, [.ref u, .int res.1])), (u, .inl (D.2 2, 40, .inr (.inl res.2)))]) (va_A [(a0, .inr (5, [.null, .int (0 : Int32)]))] sz)) 1 40 (va_A [(a0, .inr (5, [.null, .int (0 : Int32)]))] sz) := by
  refine Met.ofW (cc := cX7_init) (maxL := 2) (ret := none) (by decide) rfl ?_
  intro p e s m args below meth c s₁ B hml hv
  obtain ⟨rfl, hsz, hP, hK, hD0⟩ := hv
  have hx := B.exec
  have hb := B.bytes
  have hr := B.returns
  have hts := atoms_spec (ws := wsX7_init) B.pre
  have hown : s.vm.findClass RX7 = some m.cls := findClass_of_methodNamed B.named
  have hlocks := B.notSynchronized
  have hin : meth.name = "<init>" := (name_of_methodNamed B.named B.method).1
  subst hsz
  have hD := hD0.self (sz := s.heap.size)
  generalize hAe : va_A [(a0, .inr (5, [.null, .int (0 : Int32)]))] s.heap.size = A at hD ⊢
  have hA : ∀ q : Nat, s.heap.size ≤ q → A q := fun q h => by rw [← hAe]; exact Or.inr h
  have l3 := zat hts 1 (w := .methodLink RX7 3 objectInit) rfl
  have hobji := zat hts 2 (w := .instanceMethod objectInit) rfl
  have hobjc := zat hts 3 (w := .code objectInit ⟨#[0xb1]⟩ 1 none) rfl
  have l9 := zat hts 4 (w := .methodLink RX7 9 Lib.Math.min.name) rfl
  have hstmin := zat hts 5 (w := .static Lib.Math.min.name) rfl
  have hinM := zat hts 6 (w := .initialized "java/lang/Math") rfl
  have hcdmin := zat hts 7 (w := .code Lib.Math.min.name Lib.Math.min.code 2 (some .int)) rfl
  have l15 := zat hts 8 (w := .methodLink RX7 15 Lib.Math.max.name) rfl
  have hstmax := zat hts 9 (w := .static Lib.Math.max.name) rfl
  have hcdmax := zat hts 10 (w := .code Lib.Math.max.name Lib.Math.max.code 2 (some .int)) rfl
  have harrJ := zat hts 11 (w := .arrayClass .long) rfl
  have l18 := zat hts 12 (w := .fieldLink RX7 18 "TurnedWords$Rising" "rows" "[J") rfl
  have hwX7 : ∀ w ∈ u_ws RX7 TX7 2, w ∈ wsX7_init := fun w h => List.mem_cons_of_mem _ (List.mem_append_right _ h)
  have hl := lv_entry ([.ref a0, .int (40 : Int32)]) (n := 2) (Nat.le_of_ble_eq_true rfl)
  rw [lg_entry_eq]
  generalize (lg_sl ([.ref a0, .int (40 : Int32)]) ++ List.replicate (2 - (lg_sl ([.ref a0, .int (40 : Int32)])).length) Slot.unset).toArray = ls at hl ⊢
  have hl : lv_has ls 2 [(0, .ref a0), (1, .int (40 : Int32))] := hl
  refine zStart (A := A) hP (fun Q0 H locs hQ hP hS => ?_)
  unfold fX7_init_40 at hf
  refine lv_aload_n hx hb dX7_init_0 rfl (lv_at hl 0 rfl) ?_
  refine W.objInit hx hb hown l3 hobji hobjc rfl (by rw [hml]; exact hl.1) rfl dX7_init_1 (Nat.le_of_ble_eq_true rfl) (Nat.le_of_ble_eq_true rfl) ?_
  refine W.eq (g2 := F0 m 4 ls []) rfl ?_
  refine lv_aload_n hx hb dX7_init_4 rfl (lv_at hl 0 rfl) ?_
  refine lv_iconst (v := 0) hx hb dX7_init_5 (by decide) ?_
  refine lv_iload_n hx hb dX7_init_6 rfl (lv_at hl 1 rfl) ?_
  refine lv_sipush (v := 320) hx hb dX7_init_7 (by decide) ?_
  refine va_mmin hx hb (hml.trans hl.1.symm) hown l9 hstmin hinM hcdmin (Nat.le_of_ble_eq_true rfl) (Nat.le_of_ble_eq_true rfl) (Nat.zero_le _) (Nat.zero_le _) dX7_init_10 ?_
  refine va_mmax hx hb (hml.trans hl.1.symm) hown l15 hstmax hinM hcdmax (Nat.le_of_ble_eq_true rfl) (Nat.le_of_ble_eq_true rfl) (Nat.zero_le _) (Nat.zero_le _) dX7_init_13 ?_
  refine va_newa (atype := .long) (n := (if (0 : Int32) < (if (320 : Int32) < (40 : Int32) then (320 : Int32) else (40 : Int32)) then (if (320 : Int32) < (40 : Int32) then (320 : Int32) else (40 : Int32)) else (0 : Int32))) (a0 := (40, .inr (.inl (fun _ => (0 : Int64))))) hx hb harrJ rfl hK.1 hP hD hS hA (fun _ => rfl) (by decide) (by decide) (Nat.le_of_ble_eq_true rfl) (Nat.le_of_ble_eq_true rfl) (Nat.le_of_ble_eq_true rfl) dX7_init_16 (fun q1 cA2 H hK9 hP hD hS => ?_)
  obtain rfl := zsame hK9 2 rfl (fun _ h => h)
  have hP : va_P D.1 vwCl [(a0, .inr (5, [.null, .int (0 : Int32)])), (q1, .inl (D.2 2, 40, .inr (.inl (fun _ => (0 : Int64)))))] H := hP
  have hD : va_D A [(a0, .inr (5, [.null, .int (0 : Int32)])), (q1, .inl (D.2 2, 40, .inr (.inl (fun _ => (0 : Int64)))))] := hD
  refine W.widen (k := 1) (n := 40) (Nat.le_of_ble_eq_true rfl) (Nat.le_of_ble_eq_true rfl) ?_
  refine va_putF (D := D.1) (ci := 5) (v := .ref q1) (ty := (.array .long)) (C := RX7) (T := TX7) (N := 2) hx hb hts hwX7 tyX7 tyX7_ok nmX7 hown hK.1 hP hD hS 0 rfl rfl 0 (by decide) l18 (fun _ h9 => h9) rfl hin rfl (by decide +kernel) rfl rfl (Nat.le_of_ble_eq_true rfl) dX7_init_18 (fun H locs hP hD hS => ?_)
  have hP : va_P D.1 vwCl [(a0, .inr (5, [.ref q1, .int (0 : Int32)])), (q1, .inl (D.2 2, 40, .inr (.inl (fun _ => (0 : Int64)))))] H := hP
  have hD : va_D A [(a0, .inr (5, [.ref q1, .int (0 : Int32)])), (q1, .inl (D.2 2, 40, .inr (.inl (fun _ => (0 : Int64)))))] := hD
  have he := Option.some.inj hf
  rw [hQ]
  exact W.vret hx hb hr (fun t ht hW => by rw [← he]; exact ⟨⟨(q1), rfl, trivial, by rw [ht]; exact hP, hD⟩, hS.F ht⟩) hS.2.2 dX7_init_21
def fX7_init_320  : Option (Int32 × (Nat → Int64)) :=
  some ((0 : Int32), (fun _ => (0 : Int64)))
set_option maxHeartbeats 4000000 in
set_option maxRecDepth 100000 in
theorem mX7_init_320 (l : Launch) (D : zG) (a0 : Nat) (sz : Nat)    (res : Int32 × (Nat → Int64)) (hf : fX7_init_320 = some res) : Met l yX7_init wsX7_init ({ frames := 1, cells := 1, slots := 320, locals := 15 } : Room) (va_Pc [.ref a0, .int (320 : Int32)] (zW D sz [(a0, .inr (5, [.null, .int (0 : Int32)]))])) (va_Qv (fun (_ : Nat) => True) (fun u => zB D (va_A [(a0, .inr (5, [.null, .int (0 : Int32)]))] sz) [(a0, .inr (5, [.ref u, .int res.1])), (u, .inl (D.2 2, 320, .inr (.inl res.2)))]) (va_A [(a0, .inr (5, [.null, .int (0 : Int32)]))] sz)) 1 320 (va_A [(a0, .inr (5, [.null, .int (0 : Int32)]))] sz) := by
  refine Met.ofW (cc := cX7_init) (maxL := 2) (ret := none) (by decide) rfl ?_
  intro p e s m args below meth c s₁ B hml hv
  obtain ⟨rfl, hsz, hP, hK, hD0⟩ := hv
  have hx := B.exec
  have hb := B.bytes
  have hr := B.returns
  have hts := atoms_spec (ws := wsX7_init) B.pre
  have hown : s.vm.findClass RX7 = some m.cls := findClass_of_methodNamed B.named
  have hlocks := B.notSynchronized
  have hin : meth.name = "<init>" := (name_of_methodNamed B.named B.method).1
  subst hsz
  have hD := hD0.self (sz := s.heap.size)
  generalize hAe : va_A [(a0, .inr (5, [.null, .int (0 : Int32)]))] s.heap.size = A at hD ⊢
  have hA : ∀ q : Nat, s.heap.size ≤ q → A q := fun q h => by rw [← hAe]; exact Or.inr h
  have l3 := zat hts 1 (w := .methodLink RX7 3 objectInit) rfl
  have hobji := zat hts 2 (w := .instanceMethod objectInit) rfl
  have hobjc := zat hts 3 (w := .code objectInit ⟨#[0xb1]⟩ 1 none) rfl
  have l9 := zat hts 4 (w := .methodLink RX7 9 Lib.Math.min.name) rfl
  have hstmin := zat hts 5 (w := .static Lib.Math.min.name) rfl
  have hinM := zat hts 6 (w := .initialized "java/lang/Math") rfl
  have hcdmin := zat hts 7 (w := .code Lib.Math.min.name Lib.Math.min.code 2 (some .int)) rfl
  have l15 := zat hts 8 (w := .methodLink RX7 15 Lib.Math.max.name) rfl
  have hstmax := zat hts 9 (w := .static Lib.Math.max.name) rfl
  have hcdmax := zat hts 10 (w := .code Lib.Math.max.name Lib.Math.max.code 2 (some .int)) rfl
  have harrJ := zat hts 11 (w := .arrayClass .long) rfl
  have l18 := zat hts 12 (w := .fieldLink RX7 18 "TurnedWords$Rising" "rows" "[J") rfl
  have hwX7 : ∀ w ∈ u_ws RX7 TX7 2, w ∈ wsX7_init := fun w h => List.mem_cons_of_mem _ (List.mem_append_right _ h)
  have hl := lv_entry ([.ref a0, .int (320 : Int32)]) (n := 2) (Nat.le_of_ble_eq_true rfl)
  rw [lg_entry_eq]
  generalize (lg_sl ([.ref a0, .int (320 : Int32)]) ++ List.replicate (2 - (lg_sl ([.ref a0, .int (320 : Int32)])).length) Slot.unset).toArray = ls at hl ⊢
  have hl : lv_has ls 2 [(0, .ref a0), (1, .int (320 : Int32))] := hl
  refine zStart (A := A) hP (fun Q0 H locs hQ hP hS => ?_)
  unfold fX7_init_320 at hf
  refine lv_aload_n hx hb dX7_init_0 rfl (lv_at hl 0 rfl) ?_
  refine W.objInit hx hb hown l3 hobji hobjc rfl (by rw [hml]; exact hl.1) rfl dX7_init_1 (Nat.le_of_ble_eq_true rfl) (Nat.le_of_ble_eq_true rfl) ?_
  refine W.eq (g2 := F0 m 4 ls []) rfl ?_
  refine lv_aload_n hx hb dX7_init_4 rfl (lv_at hl 0 rfl) ?_
  refine lv_iconst (v := 0) hx hb dX7_init_5 (by decide) ?_
  refine lv_iload_n hx hb dX7_init_6 rfl (lv_at hl 1 rfl) ?_
  refine lv_sipush (v := 320) hx hb dX7_init_7 (by decide) ?_
  refine va_mmin hx hb (hml.trans hl.1.symm) hown l9 hstmin hinM hcdmin (Nat.le_of_ble_eq_true rfl) (Nat.le_of_ble_eq_true rfl) (Nat.zero_le _) (Nat.zero_le _) dX7_init_10 ?_
  refine va_mmax hx hb (hml.trans hl.1.symm) hown l15 hstmax hinM hcdmax (Nat.le_of_ble_eq_true rfl) (Nat.le_of_ble_eq_true rfl) (Nat.zero_le _) (Nat.zero_le _) dX7_init_13 ?_
  refine va_newa (atype := .long) (n := (if (0 : Int32) < (if (320 : Int32) < (320 : Int32) then (320 : Int32) else (320 : Int32)) then (if (320 : Int32) < (320 : Int32) then (320 : Int32) else (320 : Int32)) else (0 : Int32))) (a0 := (320, .inr (.inl (fun _ => (0 : Int64))))) hx hb harrJ rfl hK.1 hP hD hS hA (fun _ => rfl) (by decide) (by decide) (Nat.le_of_ble_eq_true rfl) (Nat.le_of_ble_eq_true rfl) (Nat.le_of_ble_eq_true rfl) dX7_init_16 (fun q1 cA2 H hK9 hP hD hS => ?_)
  obtain rfl := zsame hK9 2 rfl (fun _ h => h)
  have hP : va_P D.1 vwCl [(a0, .inr (5, [.null, .int (0 : Int32)])), (q1, .inl (D.2 2, 320, .inr (.inl (fun _ => (0 : Int64)))))] H := hP
  have hD : va_D A [(a0, .inr (5, [.null, .int (0 : Int32)])), (q1, .inl (D.2 2, 320, .inr (.inl (fun _ => (0 : Int64)))))] := hD
  refine W.widen (k := 1) (n := 320) (Nat.le_of_ble_eq_true rfl) (Nat.le_of_ble_eq_true rfl) ?_
  refine va_putF (D := D.1) (ci := 5) (v := .ref q1) (ty := (.array .long)) (C := RX7) (T := TX7) (N := 2) hx hb hts hwX7 tyX7 tyX7_ok nmX7 hown hK.1 hP hD hS 0 rfl rfl 0 (by decide) l18 (fun _ h9 => h9) rfl hin rfl (by decide +kernel) rfl rfl (Nat.le_of_ble_eq_true rfl) dX7_init_18 (fun H locs hP hD hS => ?_)
  have hP : va_P D.1 vwCl [(a0, .inr (5, [.ref q1, .int (0 : Int32)])), (q1, .inl (D.2 2, 320, .inr (.inl (fun _ => (0 : Int64)))))] H := hP
  have hD : va_D A [(a0, .inr (5, [.ref q1, .int (0 : Int32)])), (q1, .inl (D.2 2, 320, .inr (.inl (fun _ => (0 : Int64)))))] := hD
  have he := Option.some.inj hf
  rw [hQ]
  exact W.vret hx hb hr (fun t ht hW => by rw [← he]; exact ⟨⟨(q1), rfl, trivial, by rw [ht]; exact hP, hD⟩, hS.F ht⟩) hS.2.2 dX7_init_21
def fX3_init  : Option (Int32 × (Nat → Int64)) :=
  Option.bind (fX7_init_320) fun r2 =>
  some (r2.1, r2.2)
set_option maxHeartbeats 4000000 in
set_option maxRecDepth 100000 in
theorem mX3_init (l : Launch) (D : zG) (a0 : Nat) (sz : Nat)    (res : Int32 × (Nat → Int64)) (hf : fX3_init = some res) : Met l yX3_init wsX3_init ({ frames := 2, cells := 2, slots := 322, locals := 36 } : Room) (va_Pc [.ref a0] (zW D sz [(a0, .inr (2, [.null]))])) (va_Qv (fun (_ : Nat × Nat) => True) (fun u => zB D (va_A [(a0, .inr (2, [.null]))] sz) [(a0, .inr (2, [.ref u.1])), (u.1, .inr (5, [.ref u.2, .int res.1])), (u.2, .inl (D.2 2, 320, .inr (.inl res.2)))]) (va_A [(a0, .inr (2, [.null]))] sz)) 2 322 (va_A [(a0, .inr (2, [.null]))] sz) := by
  refine Met.ofW (cc := cX3_init) (maxL := 1) (ret := none) (by decide) rfl ?_
  intro p e s m args below meth c s₁ B hml hv
  obtain ⟨rfl, hsz, hP, hK, hD0⟩ := hv
  have hx := B.exec
  have hb := B.bytes
  have hr := B.returns
  have hts := atoms_spec (ws := wsX3_init) B.pre
  have hown : s.vm.findClass RX3 = some m.cls := findClass_of_methodNamed B.named
  have hlocks := B.notSynchronized
  have hin : meth.name = "<init>" := (name_of_methodNamed B.named B.method).1
  subst hsz
  have hD := hD0.self (sz := s.heap.size)
  generalize hAe : va_A [(a0, .inr (2, [.null]))] s.heap.size = A at hD ⊢
  have hA : ∀ q : Nat, s.heap.size ≤ q → A q := fun q h => by rw [← hAe]; exact Or.inr h
  have l3 := zat hts 1 (w := .methodLink RX3 3 objectInit) rfl
  have hobji := zat hts 2 (w := .instanceMethod objectInit) rfl
  have hobjc := zat hts 3 (w := .code objectInit ⟨#[0xb1]⟩ 1 none) rfl
  have l9 := zat hts 4 (w := .classLink RX3 9 RX7) rfl
  have hinstX7 := zat hts 5 (w := .instantiable RX7 2) rfl
  have hiniX7 := zat hts 6 (w := .initialized RX7) rfl
  have l11 := zat hts 8 (w := .methodLink RX3 11 yX7_init) rfl
  have hinm_X7_init := zat hts 9 (w := .instanceMethod yX7_init) rfl
  have l14 := zat hts 7 (w := .fieldLink RX3 14 "TurnedWords$Index" "turns" "LTurnedWords$Rising;") rfl
  have hwX7 : ∀ w ∈ u_ws RX7 TX7 2, w ∈ wsX3_init := fun w h => List.mem_cons_of_mem _ (List.mem_append_left _ (List.mem_append_right _ h))
  have hwX3 : ∀ w ∈ u_ws RX3 TX3 1, w ∈ wsX3_init := fun w h => List.mem_cons_of_mem _ (List.mem_append_right _ h)
  have hl := lv_entry ([.ref a0]) (n := 1) (Nat.le_of_ble_eq_true rfl)
  rw [lg_entry_eq]
  generalize (lg_sl ([.ref a0]) ++ List.replicate (1 - (lg_sl ([.ref a0])).length) Slot.unset).toArray = ls at hl ⊢
  have hl : lv_has ls 1 [(0, .ref a0)] := hl
  refine zStart (A := A) hP (fun Q0 H locs hQ hP hS => ?_)
  unfold fX3_init at hf
  refine lv_aload_n hx hb dX3_init_0 rfl (lv_at hl 0 rfl) ?_
  refine W.objInit hx hb hown l3 hobji hobjc rfl (by rw [hml]; exact hl.1) rfl dX3_init_1 (Nat.le_of_ble_eq_true rfl) (Nat.le_of_ble_eq_true rfl) ?_
  refine W.eq (g2 := F0 m 4 ls []) rfl ?_
  refine lv_aload_n hx hb dX3_init_4 rfl (lv_at hl 0 rfl) ?_
  refine va_new (ci := 5) (fs := [.null, .int (0 : Int32)]) (C := RX7) (T := TX7) (N := 2) hx hb hts hwX7 tyX7 tyX7_ok hown l9 hinstX7 hiniX7 hK.1 hP hD hS hA rfl (fun j hj => by rcases (show j = 0 ∨ j = 1 by omega) with rfl | rfl <;> rfl) (Nat.le_of_ble_eq_true rfl) (Nat.le_of_ble_eq_true rfl) dX3_init_5 (fun q1 H hP hD hS => ?_)
  have hP : va_P D.1 vwCl [(a0, .inr (2, [.null])), (q1, .inr (5, [.null, .int (0 : Int32)]))] H := hP
  have hD : va_D A [(a0, .inr (2, [.null])), (q1, .inr (5, [.null, .int (0 : Int32)]))] := hD
  refine W.widen (k := 1) (n := 2) (Nat.le_of_ble_eq_true rfl) (Nat.le_of_ble_eq_true rfl) ?_
  refine lv_dup hx hb dX3_init_8 rfl ?_
  refine lv_sipush (v := 320) hx hb dX3_init_9 (by decide) ?_
  obtain ⟨r2, hr2, hf⟩ := bd hf
  refine zI (As := [.int (320 : Int32)]) (rest := [.ref q1, .ref a0]) ⟨hx, hb, hml, hown, hts⟩ (mX7_init_320 l D q1 H.size r2 hr2) (cwI 1 hts gX3_init_X7_init rfl rfl rfl hiniX7 l11 hinm_X7_init rfl (by decide +kernel) ⟨Nat.le_of_ble_eq_true rfl, Nat.le_of_ble_eq_true rfl⟩) hK hP hD hS hA [1] [0] rfl (by decide) rfl (by decide) (by decide) rfl hl.1 rfl (Nat.le_of_ble_eq_true rfl) dX3_init_12 ⟨Nat.le_of_ble_eq_true rfl, Nat.le_of_ble_eq_true rfl⟩ (fun u3 H locs hP hD hS => ?_)
  have hP : va_P D.1 vwCl [(a0, .inr (2, [.null])), (q1, .inr (5, [.ref u3, .int r2.1])), (u3, .inl (D.2 2, 320, .inr (.inl r2.2)))] H := hP
  have hD : va_D A [(a0, .inr (2, [.null])), (q1, .inr (5, [.ref u3, .int r2.1])), (u3, .inl (D.2 2, 320, .inr (.inl r2.2)))] := hD
  refine W.widen (k := 2) (n := 322) (Nat.le_of_ble_eq_true rfl) (Nat.le_of_ble_eq_true rfl) ?_
  refine va_putF (D := D.1) (ci := 2) (v := .ref q1) (ty := (.object "TurnedWords$Rising")) (C := RX3) (T := TX3) (N := 1) hx hb hts hwX3 tyX3 tyX3_ok nmX3 hown hK.1 hP hD hS 0 rfl rfl 0 (by decide) l14 (fun _ h9 => h9) rfl hin rfl (by decide +kernel) rfl rfl (Nat.le_of_ble_eq_true rfl) dX3_init_15 (fun H locs hP hD hS => ?_)
  have hP : va_P D.1 vwCl [(a0, .inr (2, [.ref q1])), (q1, .inr (5, [.ref u3, .int r2.1])), (u3, .inl (D.2 2, 320, .inr (.inl r2.2)))] H := hP
  have hD : va_D A [(a0, .inr (2, [.ref q1])), (q1, .inr (5, [.ref u3, .int r2.1])), (u3, .inl (D.2 2, 320, .inr (.inl r2.2)))] := hD
  have he := Option.some.inj hf
  rw [hQ]
  exact W.vret hx hb hr (fun t ht hW => by rw [← he]; exact ⟨⟨(q1, u3), rfl, trivial, by rw [ht]; exact hP, hD⟩, hS.F ht⟩) hS.2.2 dX3_init_18
def fX7_clear (v0_size : Int32) : Option (Int32) :=
  some ((0 : Int32))
set_option maxHeartbeats 4000000 in
set_option maxRecDepth 100000 in
theorem mX7_clear (l : Launch) (D : zG) (a0 : Nat) (a0_rows : Nat) (sz : Nat)  (v0_size : Int32)  (res : Int32) (hf : fX7_clear v0_size = some res) : Met l yX7_clear wsX7_clear ({ frames := 0, cells := 0, slots := 0, locals := 0 } : Room) (va_Pc [.ref a0] (zW D sz [(a0, .inr (5, [.ref a0_rows, .int v0_size]))])) (va_Qv (fun (_ : Unit) => True) (fun _ => zB D (va_A [(a0, .inr (5, [.ref a0_rows, .int v0_size]))] sz) [(a0, .inr (5, [.ref a0_rows, .int res]))]) (va_A [(a0, .inr (5, [.ref a0_rows, .int v0_size]))] sz)) 0 0 (va_A [(a0, .inr (5, [.ref a0_rows, .int v0_size]))] sz) := by
  refine Met.ofW (cc := cX7_clear) (maxL := 1) (ret := none) (by decide) rfl ?_
  intro p e s m args below meth c s₁ B hml hv
  obtain ⟨rfl, hsz, hP, hK, hD0⟩ := hv
  have hx := B.exec
  have hb := B.bytes
  have hr := B.returns
  have hts := atoms_spec (ws := wsX7_clear) B.pre
  have hown : s.vm.findClass RX7 = some m.cls := findClass_of_methodNamed B.named
  have hlocks := B.notSynchronized
  subst hsz
  have hD := hD0.self (sz := s.heap.size)
  generalize hAe : va_A [(a0, .inr (5, [.ref a0_rows, .int v0_size]))] s.heap.size = A at hD ⊢
  have hA : ∀ q : Nat, s.heap.size ≤ q → A q := fun q h => by rw [← hAe]; exact Or.inr h
  have l24 := zat hts 1 (w := .fieldLink RX7 24 "TurnedWords$Rising" "size" "I") rfl
  have hwX7 : ∀ w ∈ u_ws RX7 TX7 2, w ∈ wsX7_clear := fun w h => List.mem_cons_of_mem _ (List.mem_append_right _ h)
  have hl := lv_entry ([.ref a0]) (n := 1) (Nat.le_of_ble_eq_true rfl)
  rw [lg_entry_eq]
  generalize (lg_sl ([.ref a0]) ++ List.replicate (1 - (lg_sl ([.ref a0])).length) Slot.unset).toArray = ls at hl ⊢
  have hl : lv_has ls 1 [(0, .ref a0)] := hl
  refine zStart (A := A) hP (fun Q0 H locs hQ hP hS => ?_)
  unfold fX7_clear at hf
  refine lv_aload_n hx hb dX7_clear_0 rfl (lv_at hl 0 rfl) ?_
  refine lv_iconst (v := 0) hx hb dX7_clear_1 (by decide) ?_
  refine va_put (D := D.1) (ci := 5) (v := .int (0 : Int32)) (ty := .int) (C := RX7) (T := TX7) (N := 2) hx hb hts hwX7 tyX7 tyX7_ok nmX7 hown hK.1 hP hD hS 0 rfl rfl 1 (by decide) l24 (fun _ h9 => h9) rfl (by decide +kernel) rfl rfl (Nat.le_of_ble_eq_true rfl) dX7_clear_2 (fun H locs hP hD hS => ?_)
  have hP : va_P D.1 vwCl [(a0, .inr (5, [.ref a0_rows, .int (0 : Int32)]))] H := hP
  have hD : va_D A [(a0, .inr (5, [.ref a0_rows, .int (0 : Int32)]))] := hD
  have he := Option.some.inj hf
  rw [hQ]
  exact W.vret hx hb hr (fun t ht hW => by rw [← he]; exact ⟨⟨(), rfl, trivial, by rw [ht]; exact hP, hD⟩, hS.F ht⟩) hS.2.2 dX7_clear_5
