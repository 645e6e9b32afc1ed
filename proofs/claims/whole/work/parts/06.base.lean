abbrev vwCl : List vw_C := [(RX1, TX1, 9), (RX2, TX2, 2), (RX3, TX3, 1), (RX4, TX4, 2), (RX5, TX5, 2), (RX7, TX7, 2), (RX9, TX9, 6), (RX10, TX10, 2), (RX11, TX11, 9), (RX12, TX12, 20)]
/-- the array classes: byte, int, long, boolean, Rising, State -/
abbrev zTY (dA : Nat → ClassId) : List (ClassId × FieldType) := [(dA 0, .byte), (dA 1, .int), (dA 2, .long), (dA 3, .boolean), (dA 4, .object "TurnedWords$Rising"), (dA 5, .object "TurnedWords$State")]
abbrev zG : Type := va_G × (Nat → ClassId)
def zN1 : Cond := .methodLinkNest RX5 19 yX11_isLetter "TurnedWords"
def zN2 : Cond := .methodLinkNest RX6 70 yX11_isLetter "TurnedWords"
/-- what the tables say, of every state -/
def zK (D : zG) (U : State) : Prop := va_K D.1 vwCl (zTY D.2) U ∧ va_Nw zN1 U ∧ va_Nw zN2 U ∧ va_AO "TurnedWords$Rising" U ∧ va_AO "TurnedWords$State" U
theorem zK.warm {D : zG} {s U : State} (hW : s.WarmedH U.vm) (h : zK D s) : zK D U := ⟨va_K.moved hW.alike h.1, va_Nw.warmM hW h.2.1, va_Nw.warmM hW h.2.2.1, va_AO.moved hW.alike h.2.2.2.1, va_AO.moved hW.alike h.2.2.2.2⟩
theorem zK.calling {D : zG} {U : State} {g : JFrame} {mk : MethodId} {a : Array Value} (h : zK D U) : zK D (U.calling g mk a) := ⟨va_K.moved (Vm.Alike.refl U.vm) h.1, va_Nw.same rfl rfl h.2.1, va_Nw.same rfl rfl h.2.2.1, va_AO.moved (Vm.Alike.refl U.vm) h.2.2.2.1, va_AO.moved (Vm.Alike.refl U.vm) h.2.2.2.2⟩
/-- the world at a method's start -/
abbrev zW (D : zG) (sz : Nat) (ws : va_W) (U : State) : Prop := U.heap.size = sz ∧ va_P D.1 vwCl ws U.heap ∧ zK D U ∧ va_D (fun _ => True) ws
/-- the world behind a method -/
abbrev zB (D : zG) (A : Nat → Prop) (ws : va_W) (t : State) : Prop := va_P D.1 vwCl ws t.heap ∧ va_D A ws
theorem zBlind {D : zG} {av : List Value} {sz : Nat} {ws : va_W} : FrameBlind (va_Pc av (zW D sz ws)) := fun _ _ _ _ q => ⟨q.1, q.2.1, q.2.2.1, q.2.2.2.1.calling, q.2.2.2.2⟩
theorem zPre {D : zG} {av : List Value} {s U : State} {ws : va_W} {H : Heap} {A : Nat → Prop} (hP : va_P D.1 vwCl ws H) (hD : va_D A ws) (hK : zK D s) (hU : U.heap = H) (hW : s.WarmedH U.vm) : va_Pc av (zW D H.size ws) av.toArray U := ⟨rfl, by rw [hU], by rw [hU]; exact hP, hK.warm hW, hD.weaken (fun _ _ _ _ => trivial)⟩
theorem gd {α : Type} {c : Prop} [Decidable c] {x : Option α} {r : α} (h : (if c then none else x) = some r) : ¬ c ∧ x = some r := by
  by_cases hc : c
  · rw [if_pos hc] at h; cases h
  · rw [if_neg hc] at h; exact ⟨hc, h⟩
theorem bd {α β : Type} {x : Option α} {f : α → Option β} {r : β} (h : x.bind f = some r) : ∃ v, x = some v ∧ f v = some r := by
  cases x with
  | none => cases h
  | some v => exact ⟨v, rfl, h⟩
