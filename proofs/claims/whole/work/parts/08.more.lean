theorem zI {p : Program} {l : Launch} {e : Env} {R : Room} {s : State} {m : MethodId} {args : Array Value} {below : List Frame} {meth : Method} {c : Code} {H H0 : Heap} {locs : List Loc} {cells slots : Nat} {Q : State → Prop} {pc : Nat} {ls : Array Slot} {rest st0 : List Value} {A0 : Nat → Prop} {D : zG} {y : MethodName} {bytes cc : ByteArray} {maxL nL n index mc ms b : Nat} {wy Ts : List Cond} {rm : Room} {own : String} {As : List Value} {ws wc : va_W} {U1 : Type} {w1 : U1 → va_W}
    (S : CallFix p m c cc nL s args Ts own) (hM : Met l y wy rm (va_Pc (.ref b :: As) (zW D H.size wc)) (va_Qv (fun (_ : U1) => True) (fun u => zB D (va_A wc H.size) (w1 u)) (va_A wc H.size)) mc ms (va_A wc H.size)) (cw : CallB R s args own index y bytes maxL none wy rm mc ms n ∧ y.name = "<init>" ∧ (Cond.instanceMethod y).before args s = true)
    (hK : zK D s) (hP : va_P D.1 vwCl ws H) (hD : va_D A0 ws) (hS : va_S A0 H0 H locs) (hA : ∀ q, H0.size ≤ q → A0 q)
    (isC isR : List Nat) (hC : isC.map (fun i => ws[i]?) = wc.map some) (hnC : va_nd isC = true) (hR : isR.map (fun i => ws[i]?) = (isR.filterMap (fun i => ws[i]?)).map some) (hnR : va_nd isR = true) (hdis : ∀ i ∈ isR, i ∉ isC)
    (hn : As.length = n) (hsize : ls.size = nL) (hst : st0 = As.reverse ++ .ref b :: rest) (hW : (rest.map fun v => v.category).sum ≤ 8) (hdg : decode cc pc = .ok (.invokespecial index, 3)) (hf : cells + mc ≤ R.cells ∧ slots + ms ≤ R.slots)
    (kk : ∀ (u : U1) (H1 : Heap) (locs1 : List Loc), va_P D.1 vwCl (isR.filterMap (fun i => ws[i]?) ++ w1 u) H1 → va_D A0 (isR.filterMap (fun i => ws[i]?) ++ w1 u) → va_S A0 H0 H1 locs1 → W p l e R s m args below meth c H1 locs1 (cells + mc) (slots + ms) Q (F0 m (pc + 3) ls rest)) : W p l e R s m args below meth c H locs cells slots Q (F0 m pc ls st0) := by
  have hPc : va_P D.1 vwCl wc H := hP.sub isC (by rw [zfm hC])
  have hDc : va_D A0 wc := hD.sub isC hnC hC
  have hFc := va_free (wc := wc) hD hS hA isC hC
  subst hst
  refine va_callv (va_runI (rest := rest) S hM cw ⟨zBlind, fun U hU hW => zPre hPc hDc hK hU hW⟩ rfl hn hsize rfl (lv_room hW) hdg hf) hS (fun q _ h => hFc q h) hFc (fun u t H1 locs1 ht hvm hp hB hz hk hS1 => ?_)
  obtain ⟨hP1, hD1⟩ := hB
  rw [ht] at hP1
  obtain ⟨hP2, hD2⟩ := va_join (wr := isR.filterMap (fun i => ws[i]?)) (w1 := w1 u) hP hD isC isR hC hR hnR hdis hk hFc hP1 hD1
  exact kk u H1 locs1 hP2 hD2 hS1
def zq3 (o0 o1 o2 : Option Nat) : Nat → Option Nat := fun k => if k = 0 then o0 else if k = 1 then o1 else if k = 2 then o2 else none
def zq4 (o0 o1 o2 o3 : Option Nat) : Nat → Option Nat := fun k => if k = 0 then o0 else if k = 1 then o1 else if k = 2 then o2 else if k = 3 then o3 else none
theorem zq3_none : zq3 none none none = fun _ => none := by
  funext k; unfold zq3; simp
theorem zq4_none : zq4 none none none none = fun _ => none := by
  funext k; unfold zq4; simp
theorem zq3_u0 (o0 o1 o2 v : Option Nat) : va_up (zq3 o0 o1 o2) 0 v = zq3 v o1 o2 := by
  funext k; unfold va_up zq3; by_cases h : k = 0 <;> simp [h]
theorem zq3_u1 (o0 o1 o2 v : Option Nat) : va_up (zq3 o0 o1 o2) 1 v = zq3 o0 v o2 := by
  funext k; unfold va_up zq3; by_cases h : k = 1 <;> simp [h]
theorem zq3_u2 (o0 o1 o2 v : Option Nat) : va_up (zq3 o0 o1 o2) 2 v = zq3 o0 o1 v := by
  funext k; unfold va_up zq3; by_cases h : k = 2 <;> simp [h]
theorem zq4_u0 (o0 o1 o2 o3 v : Option Nat) : va_up (zq4 o0 o1 o2 o3) 0 v = zq4 v o1 o2 o3 := by
  funext k; unfold va_up zq4; by_cases h : k = 0 <;> simp [h]
theorem zq4_u1 (o0 o1 o2 o3 v : Option Nat) : va_up (zq4 o0 o1 o2 o3) 1 v = zq4 o0 v o2 o3 := by
  funext k; unfold va_up zq4; by_cases h : k = 1 <;> simp [h]
theorem zq4_u2 (o0 o1 o2 o3 v : Option Nat) : va_up (zq4 o0 o1 o2 o3) 2 v = zq4 o0 o1 v o3 := by
  funext k; unfold va_up zq4; by_cases h : k = 2 <;> simp [h]
theorem zq4_u3 (o0 o1 o2 o3 v : Option Nat) : va_up (zq4 o0 o1 o2 o3) 3 v = zq4 o0 o1 o2 v := by
  funext k; unfold va_up zq4; by_cases h : k = 3 <;> simp [h]
theorem zRA {U : State} {cA : ClassId} {C : String} (h : va_RA U cA (.object C)) : U.vm.findClass ("[" ++ (FieldType.object C).toString) = some cA := by
  obtain ⟨_, _, _, _, _, h4⟩ := h
  exact h4
theorem zsame {D : va_G} {cl : List vw_C} {tys : List (ClassId × FieldType)} {s : State} {cA c0 : ClassId} {ty : FieldType} (hK : va_K D cl (tys ++ [(cA, ty)]) s) (i : Nat) (hi : tys[i]? = some (c0, ty)) (hf : ∀ c : ClassId, va_RA s c ty → s.vm.findClass ("[" ++ ty.toString) = some c) : c0 = cA := by
  have hl := (List.getElem?_eq_some_iff.mp hi).1
  have h1 := (hK.2 i (c0, ty) (by rw [List.getElem?_append_left hl]; exact hi)).2
  have h2 := (hK.2 tys.length (cA, ty) (by rw [List.getElem?_append_right (Nat.le_refl _)]; simp)).2
  exact Option.some.inj ((hf _ h1).symm.trans (hf _ h2))
