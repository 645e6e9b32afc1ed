theorem zfm {ws wc : va_W} {is : List Nat} (h : is.map (fun i => ws[i]?) = wc.map some) : is.filterMap (fun i => ws[i]?) = wc := by
  induction is generalizing wc with
  | nil =>
    cases wc with
    | nil => rfl
    | cons a t => cases h
  | cons i is ih =>
    cases wc with
    | nil => cases h
    | cons a t =>
      rw [List.map_cons, List.map_cons] at h
      obtain ⟨h1, h2⟩ := List.cons.inj h
      rw [List.filterMap_cons, h1]
      dsimp only
      rw [ih h2]
theorem ip {α : Type} {c : Prop} [Decidable c] {x y z : α} (hc : c) (h : (if c then x else y) = z) : x = z := by rw [if_pos hc] at h; exact h
theorem im {α : Type} {c : Prop} [Decidable c] {x y z : α} (hc : ¬ c) (h : (if c then x else y) = z) : y = z := by rw [if_neg hc] at h; exact h
theorem znb {v : Int32} (h : v = 0 ∨ v = 1) : narrow .boolean (.int v) = .int v := by rcases h with rfl | rfl <;> rfl
theorem zQ {p : Program} {l : Launch} {e : Env} {R : Room} {s : State} {m : MethodId} {args : Array Value} {below : List Frame} {meth : Method} {c : Code} {H : Heap} {locs : List Loc} {cells slots : Nat} {Q : State → Prop} {g : JFrame} (k : ∀ Q0 : State → Prop, Q0 = Q → W p l e R s m args below meth c H locs cells slots Q0 g) : W p l e R s m args below meth c H locs cells slots Q g := k Q rfl
theorem zStart {p : Program} {l : Launch} {e : Env} {R : Room} {s : State} {m : MethodId} {args : Array Value} {below : List Frame} {meth : Method} {c : Code} {cells slots : Nat} {Q : State → Prop} {g : JFrame} {D : zG} {A : Nat → Prop} {ws : va_W} (hP : va_P D.1 vwCl ws s.heap) (k : ∀ (Q0 : State → Prop) (H : Heap) (locs : List Loc), Q0 = Q → va_P D.1 vwCl ws H → va_S A s.heap H locs → W p l e R s m args below meth c H locs cells slots Q0 g) : W p l e R s m args below meth c s.heap [] cells slots Q g := k Q s.heap [] rfl hP va_S.rf
theorem zor5 {a b c d e : Prop} (h : ¬ (a ∨ b ∨ c ∨ d ∨ e)) : ¬ a ∧ ¬ b ∧ ¬ c ∧ ¬ d ∧ ¬ e := ⟨fun x => h (Or.inl x), fun x => h (Or.inr (Or.inl x)), fun x => h (Or.inr (Or.inr (Or.inl x))), fun x => h (Or.inr (Or.inr (Or.inr (Or.inl x)))), fun x => h (Or.inr (Or.inr (Or.inr (Or.inr x))))⟩
theorem zor6 {a b c d e f : Prop} (h : ¬ (a ∨ b ∨ c ∨ d ∨ e ∨ f)) : ¬ a ∧ ¬ b ∧ ¬ c ∧ ¬ d ∧ ¬ e ∧ ¬ f := ⟨fun x => h (Or.inl x), fun x => h (Or.inr (Or.inl x)), fun x => h (Or.inr (Or.inr (Or.inl x))), fun x => h (Or.inr (Or.inr (Or.inr (Or.inl x)))), fun x => h (Or.inr (Or.inr (Or.inr (Or.inr (Or.inl x))))), fun x => h (Or.inr (Or.inr (Or.inr (Or.inr (Or.inr x)))))⟩
theorem zlook2 {x : Int32} {o0 o1 dflt : Int} (h0 : ¬ x = 0) (h1 : ¬ x = 1) : Op.lookupswitch.offset [(0, o0), (1, o1)] dflt x.toInt = dflt := by
  rw [Op.lookupswitch.offset_cons, if_neg, Op.lookupswitch.offset_cons, if_neg, Op.lookupswitch.offset_nil]
  · intro h; exact h1 (Int32.toInt_inj.mp (h.symm.trans rfl))
  · intro h; exact h0 (Int32.toInt_inj.mp (h.symm.trans rfl))
/-- a word among the words, by its place -/
theorem zat {Ts : List Cond} {args : Array Value} {s : State} (hts : ∀ w ∈ Ts, w.before args s = true) (i : Nat) {w : Cond} (h : Ts[i]? = some w) : w.before args s = true := hts w (List.mem_of_getElem? h)
theorem zVi {p : Program} {l : Launch} {e : Env} {R : Room} {s : State} {m : MethodId} {args : Array Value} {below : List Frame} {meth : Method} {c : Code} {H H0 : Heap} {locs : List Loc} {cells slots : Nat} {Q : State → Prop} {pc : Nat} {ls : Array Slot} {rest st0 : List Value} {A0 : Nat → Prop} {D : zG} {y : MethodName} {bytes cc : ByteArray} {maxL nL n index : Nat} {ret : Option FieldType} {wy Ts : List Cond} {rm : Room} {own : String} {As : List Value} {ws wc w1 wn : va_W} {RV : Int32} {b ci q0 NN : Nat} {C : String} {T : u_T} {fs : List Value}
    (S : CallFix p m c cc nL s args Ts own) (hM : Met l y wy rm (va_Pc (.ref b :: As) (zW D H.size wc)) (va_Qi (fun r (_ : Unit) => r = RV) (fun _ => zB D (va_A wc H.size) w1) (va_A wc H.size)) 0 0 (va_A wc H.size)) (cw : CallW R s args own C index y bytes maxL ret wy rm 0 0 n)
    (hK : zK D s) (hP : va_P D.1 vwCl ws H) (hD : va_D A0 ws) (hS : va_S A0 H0 H locs) (hA : ∀ q, H0.size ≤ q → A0 q)
    (isC isR pm : List Nat) (hC : isC.map (fun i => ws[i]?) = wc.map some) (hnC : va_nd isC = true) (hR : isR.map (fun i => ws[i]?) = (isR.filterMap (fun i => ws[i]?)).map some) (hnR : va_nd isR = true) (hdis : ∀ i ∈ isR, i ∉ isC) (hpm : pm.map (fun i => ((isR.filterMap (fun i => ws[i]?)) ++ w1)[i]?) = wn.map some) (hnp : va_nd pm = true)
    (hc : vwCl[ci]? = some (C, T, NN)) (he : wc[q0]? = some (b, .inr (ci, fs))) (hn : As.length = n) (hsize : ls.size = nL) (hst : st0 = As.reverse ++ .ref b :: rest) (hW : (rest.map fun v => v.category).sum ≤ 8) (hdg : decode cc pc = .ok (.invokevirtual index, 3)) (hf : cells ≤ R.cells ∧ slots ≤ R.slots)
    (kk : ∀ (H1 : Heap) (locs1 : List Loc), va_P D.1 vwCl wn H1 → va_D A0 wn → va_S A0 H0 H1 locs1 → W p l e R s m args below meth c H1 locs1 cells slots Q (F0 m (pc + 3) ls (.int RV :: rest))) : W p l e R s m args below meth c H locs cells slots Q (F0 m pc ls st0) := by
  have hPc : va_P D.1 vwCl wc H := hP.sub isC (by rw [zfm hC])
  have hDc : va_D A0 wc := hD.sub isC hnC hC
  have hFc := va_free (wc := wc) hD hS hA isC hC
  subst hst
  refine va_calli (va_runV (rest := rest) S hM cw ⟨zBlind, va_recv hK.1 hPc hc he, fun U hU hW => zPre hPc hDc hK hU hW⟩ rfl hn hsize rfl (lv_room hW) hdg hf) hS (fun q _ h => hFc q h) hFc (fun r u t H1 locs1 ht hvm hp hB hz hk hS1 => ?_)
  subst hp
  obtain ⟨hP1, hD1⟩ := hB
  rw [ht] at hP1
  obtain ⟨hP2, hD2⟩ := va_join (wr := isR.filterMap (fun i => ws[i]?)) (w1 := w1) hP hD isC isR hC hR hnR hdis hk hFc hP1 hD1
  exact kk H1 locs1 (hP2.sub pm (zfm hpm)) (hD2.sub pm hnp hpm) hS1
theorem zVz {p : Program} {l : Launch} {e : Env} {R : Room} {s : State} {m : MethodId} {args : Array Value} {below : List Frame} {meth : Method} {c : Code} {H H0 : Heap} {locs : List Loc} {cells slots : Nat} {Q : State → Prop} {pc : Nat} {ls : Array Slot} {rest st0 : List Value} {A0 : Nat → Prop} {D : zG} {y : MethodName} {bytes cc : ByteArray} {maxL nL n index : Nat} {ret : Option FieldType} {wy Ts : List Cond} {rm : Room} {own : String} {As : List Value} {ws wc w1 wn : va_W} {RV : Int32} {b ci q0 NN : Nat} {C : String} {T : u_T} {fs : List Value}
    (S : CallFix p m c cc nL s args Ts own) (hM : Met l y wy rm (va_Pc (.ref b :: As) (zW D H.size wc)) (va_Qi (fun r (_ : Unit) => r = RV ∧ (r = 0 ∨ r = 1)) (fun _ => zB D (va_A wc H.size) w1) (va_A wc H.size)) 0 0 (va_A wc H.size)) (cw : CallW R s args own C index y bytes maxL ret wy rm 0 0 n)
    (hK : zK D s) (hP : va_P D.1 vwCl ws H) (hD : va_D A0 ws) (hS : va_S A0 H0 H locs) (hA : ∀ q, H0.size ≤ q → A0 q)
    (isC isR pm : List Nat) (hC : isC.map (fun i => ws[i]?) = wc.map some) (hnC : va_nd isC = true) (hR : isR.map (fun i => ws[i]?) = (isR.filterMap (fun i => ws[i]?)).map some) (hnR : va_nd isR = true) (hdis : ∀ i ∈ isR, i ∉ isC) (hpm : pm.map (fun i => ((isR.filterMap (fun i => ws[i]?)) ++ w1)[i]?) = wn.map some) (hnp : va_nd pm = true)
    (hc : vwCl[ci]? = some (C, T, NN)) (he : wc[q0]? = some (b, .inr (ci, fs))) (hn : As.length = n) (hsize : ls.size = nL) (hst : st0 = As.reverse ++ .ref b :: rest) (hW : (rest.map fun v => v.category).sum ≤ 8) (hdg : decode cc pc = .ok (.invokevirtual index, 3)) (hf : cells ≤ R.cells ∧ slots ≤ R.slots)
    (kk : ∀ (H1 : Heap) (locs1 : List Loc), (RV = 0 ∨ RV = 1) → va_P D.1 vwCl wn H1 → va_D A0 wn → va_S A0 H0 H1 locs1 → W p l e R s m args below meth c H1 locs1 cells slots Q (F0 m (pc + 3) ls (.int RV :: rest))) : W p l e R s m args below meth c H locs cells slots Q (F0 m pc ls st0) := by
  have hPc : va_P D.1 vwCl wc H := hP.sub isC (by rw [zfm hC])
  have hDc : va_D A0 wc := hD.sub isC hnC hC
  have hFc := va_free (wc := wc) hD hS hA isC hC
  subst hst
  refine va_calli (va_runV (rest := rest) S hM cw ⟨zBlind, va_recv hK.1 hPc hc he, fun U hU hW => zPre hPc hDc hK hU hW⟩ rfl hn hsize rfl (lv_room hW) hdg hf) hS (fun q _ h => hFc q h) hFc (fun r u t H1 locs1 ht hvm hp hB hz hk hS1 => ?_)
  obtain ⟨rfl, hp⟩ := hp
  obtain ⟨hP1, hD1⟩ := hB
  rw [ht] at hP1
  obtain ⟨hP2, hD2⟩ := va_join (wr := isR.filterMap (fun i => ws[i]?)) (w1 := w1) hP hD isC isR hC hR hnR hdis hk hFc hP1 hD1
  exact kk H1 locs1 hp (hP2.sub pm (zfm hpm)) (hD2.sub pm hnp hpm) hS1
theorem zVl {p : Program} {l : Launch} {e : Env} {R : Room} {s : State} {m : MethodId} {args : Array Value} {below : List Frame} {meth : Method} {c : Code} {H H0 : Heap} {locs : List Loc} {cells slots : Nat} {Q : State → Prop} {pc : Nat} {ls : Array Slot} {rest st0 : List Value} {A0 : Nat → Prop} {D : zG} {y : MethodName} {bytes cc : ByteArray} {maxL nL n index : Nat} {ret : Option FieldType} {wy Ts : List Cond} {rm : Room} {own : String} {As : List Value} {ws wc w1 wn : va_W} {RV : Int64} {b ci q0 NN : Nat} {C : String} {T : u_T} {fs : List Value}
    (S : CallFix p m c cc nL s args Ts own) (hM : Met l y wy rm (va_Pc (.ref b :: As) (zW D H.size wc)) (va_Ql (fun r (_ : Unit) => r = RV) (fun _ => zB D (va_A wc H.size) w1) (va_A wc H.size)) 0 0 (va_A wc H.size)) (cw : CallW R s args own C index y bytes maxL ret wy rm 0 0 n)
    (hK : zK D s) (hP : va_P D.1 vwCl ws H) (hD : va_D A0 ws) (hS : va_S A0 H0 H locs) (hA : ∀ q, H0.size ≤ q → A0 q)
    (isC isR pm : List Nat) (hC : isC.map (fun i => ws[i]?) = wc.map some) (hnC : va_nd isC = true) (hR : isR.map (fun i => ws[i]?) = (isR.filterMap (fun i => ws[i]?)).map some) (hnR : va_nd isR = true) (hdis : ∀ i ∈ isR, i ∉ isC) (hpm : pm.map (fun i => ((isR.filterMap (fun i => ws[i]?)) ++ w1)[i]?) = wn.map some) (hnp : va_nd pm = true)
    (hc : vwCl[ci]? = some (C, T, NN)) (he : wc[q0]? = some (b, .inr (ci, fs))) (hn : As.length = n) (hsize : ls.size = nL) (hst : st0 = As.reverse ++ .ref b :: rest) (hW : (rest.map fun v => v.category).sum ≤ 8) (hdg : decode cc pc = .ok (.invokevirtual index, 3)) (hf : cells ≤ R.cells ∧ slots ≤ R.slots)
    (kk : ∀ (H1 : Heap) (locs1 : List Loc), va_P D.1 vwCl wn H1 → va_D A0 wn → va_S A0 H0 H1 locs1 → W p l e R s m args below meth c H1 locs1 cells slots Q (F0 m (pc + 3) ls (.long RV :: rest))) : W p l e R s m args below meth c H locs cells slots Q (F0 m pc ls st0) := by
  have hPc : va_P D.1 vwCl wc H := hP.sub isC (by rw [zfm hC])
  have hDc : va_D A0 wc := hD.sub isC hnC hC
  have hFc := va_free (wc := wc) hD hS hA isC hC
  subst hst
  refine va_calll (va_runV (rest := rest) S hM cw ⟨zBlind, va_recv hK.1 hPc hc he, fun U hU hW => zPre hPc hDc hK hU hW⟩ rfl hn hsize rfl (lv_room hW) hdg hf) hS (fun q _ h => hFc q h) hFc (fun r u t H1 locs1 ht hvm hp hB hz hk hS1 => ?_)
  subst hp
  obtain ⟨hP1, hD1⟩ := hB
  rw [ht] at hP1
  obtain ⟨hP2, hD2⟩ := va_join (wr := isR.filterMap (fun i => ws[i]?)) (w1 := w1) hP hD isC isR hC hR hnR hdis hk hFc hP1 hD1
  exact kk H1 locs1 (hP2.sub pm (zfm hpm)) (hD2.sub pm hnp hpm) hS1
theorem zVr {p : Program} {l : Launch} {e : Env} {R : Room} {s : State} {m : MethodId} {args : Array Value} {below : List Frame} {meth : Method} {c : Code} {H H0 : Heap} {locs : List Loc} {cells slots : Nat} {Q : State → Prop} {pc : Nat} {ls : Array Slot} {rest st0 : List Value} {A0 : Nat → Prop} {D : zG} {y : MethodName} {bytes cc : ByteArray} {maxL nL n index : Nat} {ret : Option FieldType} {wy Ts : List Cond} {rm : Room} {own : String} {As : List Value} {ws wc w1 wn : va_W} {RV : Nat} {b ci q0 NN : Nat} {C : String} {T : u_T} {fs : List Value}
    (S : CallFix p m c cc nL s args Ts own) (hM : Met l y wy rm (va_Pc (.ref b :: As) (zW D H.size wc)) (va_Qr (fun (_ : Unit) => True) (fun _ a t => a = RV ∧ zB D (va_A wc H.size) w1 t) (va_A wc H.size)) 0 0 (va_A wc H.size)) (cw : CallW R s args own C index y bytes maxL ret wy rm 0 0 n)
    (hK : zK D s) (hP : va_P D.1 vwCl ws H) (hD : va_D A0 ws) (hS : va_S A0 H0 H locs) (hA : ∀ q, H0.size ≤ q → A0 q)
    (isC isR pm : List Nat) (hC : isC.map (fun i => ws[i]?) = wc.map some) (hnC : va_nd isC = true) (hR : isR.map (fun i => ws[i]?) = (isR.filterMap (fun i => ws[i]?)).map some) (hnR : va_nd isR = true) (hdis : ∀ i ∈ isR, i ∉ isC) (hpm : pm.map (fun i => ((isR.filterMap (fun i => ws[i]?)) ++ w1)[i]?) = wn.map some) (hnp : va_nd pm = true)
    (hc : vwCl[ci]? = some (C, T, NN)) (he : wc[q0]? = some (b, .inr (ci, fs))) (hn : As.length = n) (hsize : ls.size = nL) (hst : st0 = As.reverse ++ .ref b :: rest) (hW : (rest.map fun v => v.category).sum ≤ 8) (hdg : decode cc pc = .ok (.invokevirtual index, 3)) (hf : cells ≤ R.cells ∧ slots ≤ R.slots)
    (kk : ∀ (H1 : Heap) (locs1 : List Loc), va_P D.1 vwCl wn H1 → va_D A0 wn → va_S A0 H0 H1 locs1 → W p l e R s m args below meth c H1 locs1 cells slots Q (F0 m (pc + 3) ls (.ref RV :: rest))) : W p l e R s m args below meth c H locs cells slots Q (F0 m pc ls st0) := by
  have hPc : va_P D.1 vwCl wc H := hP.sub isC (by rw [zfm hC])
  have hDc : va_D A0 wc := hD.sub isC hnC hC
  have hFc := va_free (wc := wc) hD hS hA isC hC
  subst hst
  refine va_callr (va_runV (rest := rest) S hM cw ⟨zBlind, va_recv hK.1 hPc hc he, fun U hU hW => zPre hPc hDc hK hU hW⟩ rfl hn hsize rfl (lv_room hW) hdg hf) hS (fun q _ h => hFc q h) hFc (fun u r t H1 locs1 ht hvm hp hB hz hk hS1 => ?_)
  obtain ⟨rfl, hB⟩ := hB
  obtain ⟨hP1, hD1⟩ := hB
  rw [ht] at hP1
  obtain ⟨hP2, hD2⟩ := va_join (wr := isR.filterMap (fun i => ws[i]?)) (w1 := w1) hP hD isC isR hC hR hnR hdis hk hFc hP1 hD1
  exact kk H1 locs1 (hP2.sub pm (zfm hpm)) (hD2.sub pm hnp hpm) hS1
theorem zVv {p : Program} {l : Launch} {e : Env} {R : Room} {s : State} {m : MethodId} {args : Array Value} {below : List Frame} {meth : Method} {c : Code} {H H0 : Heap} {locs : List Loc} {cells slots : Nat} {Q : State → Prop} {pc : Nat} {ls : Array Slot} {rest st0 : List Value} {A0 : Nat → Prop} {D : zG} {y : MethodName} {bytes cc : ByteArray} {maxL nL n index : Nat} {ret : Option FieldType} {wy Ts : List Cond} {rm : Room} {own : String} {As : List Value} {ws wc w1 wn : va_W} {b ci q0 NN : Nat} {C : String} {T : u_T} {fs : List Value}
    (S : CallFix p m c cc nL s args Ts own) (hM : Met l y wy rm (va_Pc (.ref b :: As) (zW D H.size wc)) (va_Qv (fun (_ : Unit) => True) (fun _ => zB D (va_A wc H.size) w1) (va_A wc H.size)) 0 0 (va_A wc H.size)) (cw : CallW R s args own C index y bytes maxL ret wy rm 0 0 n)
    (hK : zK D s) (hP : va_P D.1 vwCl ws H) (hD : va_D A0 ws) (hS : va_S A0 H0 H locs) (hA : ∀ q, H0.size ≤ q → A0 q)
    (isC isR pm : List Nat) (hC : isC.map (fun i => ws[i]?) = wc.map some) (hnC : va_nd isC = true) (hR : isR.map (fun i => ws[i]?) = (isR.filterMap (fun i => ws[i]?)).map some) (hnR : va_nd isR = true) (hdis : ∀ i ∈ isR, i ∉ isC) (hpm : pm.map (fun i => ((isR.filterMap (fun i => ws[i]?)) ++ w1)[i]?) = wn.map some) (hnp : va_nd pm = true)
    (hc : vwCl[ci]? = some (C, T, NN)) (he : wc[q0]? = some (b, .inr (ci, fs))) (hn : As.length = n) (hsize : ls.size = nL) (hst : st0 = As.reverse ++ .ref b :: rest) (hW : (rest.map fun v => v.category).sum ≤ 8) (hdg : decode cc pc = .ok (.invokevirtual index, 3)) (hf : cells ≤ R.cells ∧ slots ≤ R.slots)
    (kk : ∀ (H1 : Heap) (locs1 : List Loc), va_P D.1 vwCl wn H1 → va_D A0 wn → va_S A0 H0 H1 locs1 → W p l e R s m args below meth c H1 locs1 cells slots Q (F0 m (pc + 3) ls (rest))) : W p l e R s m args below meth c H locs cells slots Q (F0 m pc ls st0) := by
  have hPc : va_P D.1 vwCl wc H := hP.sub isC (by rw [zfm hC])
  have hDc : va_D A0 wc := hD.sub isC hnC hC
  have hFc := va_free (wc := wc) hD hS hA isC hC
  subst hst
  refine va_callv (va_runV (rest := rest) S hM cw ⟨zBlind, va_recv hK.1 hPc hc he, fun U hU hW => zPre hPc hDc hK hU hW⟩ rfl hn hsize rfl (lv_room hW) hdg hf) hS (fun q _ h => hFc q h) hFc (fun u t H1 locs1 ht hvm hp hB hz hk hS1 => ?_)
  skip
  obtain ⟨hP1, hD1⟩ := hB
  rw [ht] at hP1
  obtain ⟨hP2, hD2⟩ := va_join (wr := isR.filterMap (fun i => ws[i]?)) (w1 := w1) hP hD isC isR hC hR hnR hdis hk hFc hP1 hD1
  exact kk H1 locs1 (hP2.sub pm (zfm hpm)) (hD2.sub pm hnp hpm) hS1
theorem zSi {p : Program} {l : Launch} {e : Env} {R : Room} {s : State} {m : MethodId} {args : Array Value} {below : List Frame} {meth : Method} {c : Code} {H H0 : Heap} {locs : List Loc} {cells slots : Nat} {Q : State → Prop} {pc : Nat} {ls : Array Slot} {rest st0 : List Value} {A0 : Nat → Prop} {D : zG} {y : MethodName} {bytes cc : ByteArray} {maxL nL n index : Nat} {ret : Option FieldType} {wy Ts : List Cond} {rm : Room} {own : String} {As : List Value} {ws wc w1 wn : va_W} {RV : Int32} 
    (S : CallFix p m c cc nL s args Ts own) (hM : Met l y wy rm (va_Pc As (zW D H.size wc)) (va_Qi (fun r (_ : Unit) => r = RV) (fun _ => zB D (va_A wc H.size) w1) (va_A wc H.size)) 0 0 (va_A wc H.size)) (cw : CallB R s args own index y bytes maxL ret wy rm 0 0 n ∧ (Cond.static y).before args s = true)
    (hK : zK D s) (hP : va_P D.1 vwCl ws H) (hD : va_D A0 ws) (hS : va_S A0 H0 H locs) (hA : ∀ q, H0.size ≤ q → A0 q)
    (isC isR pm : List Nat) (hC : isC.map (fun i => ws[i]?) = wc.map some) (hnC : va_nd isC = true) (hR : isR.map (fun i => ws[i]?) = (isR.filterMap (fun i => ws[i]?)).map some) (hnR : va_nd isR = true) (hdis : ∀ i ∈ isR, i ∉ isC) (hpm : pm.map (fun i => ((isR.filterMap (fun i => ws[i]?)) ++ w1)[i]?) = wn.map some) (hnp : va_nd pm = true)
    (hn : As.length = n) (hsize : ls.size = nL) (hst : st0 = As.reverse ++ rest) (hW : (rest.map fun v => v.category).sum ≤ 8) (hdg : decode cc pc = .ok (.invokestatic index, 3)) (hf : cells ≤ R.cells ∧ slots ≤ R.slots)
    (kk : ∀ (H1 : Heap) (locs1 : List Loc), va_P D.1 vwCl wn H1 → va_D A0 wn → va_S A0 H0 H1 locs1 → W p l e R s m args below meth c H1 locs1 cells slots Q (F0 m (pc + 3) ls (.int RV :: rest))) : W p l e R s m args below meth c H locs cells slots Q (F0 m pc ls st0) := by
  have hPc : va_P D.1 vwCl wc H := hP.sub isC (by rw [zfm hC])
  have hDc : va_D A0 wc := hD.sub isC hnC hC
  have hFc := va_free (wc := wc) hD hS hA isC hC
  subst hst
  refine va_calli (va_runS (rest := rest) S hM cw ⟨zBlind, fun U hU hW => zPre hPc hDc hK hU hW⟩ rfl hn hsize rfl (lv_room hW) hdg hf) hS (fun q _ h => hFc q h) hFc (fun r u t H1 locs1 ht hvm hp hB hz hk hS1 => ?_)
  subst hp
  obtain ⟨hP1, hD1⟩ := hB
  rw [ht] at hP1
  obtain ⟨hP2, hD2⟩ := va_join (wr := isR.filterMap (fun i => ws[i]?)) (w1 := w1) hP hD isC isR hC hR hnR hdis hk hFc hP1 hD1
  exact kk H1 locs1 (hP2.sub pm (zfm hpm)) (hD2.sub pm hnp hpm) hS1
theorem zSz {p : Program} {l : Launch} {e : Env} {R : Room} {s : State} {m : MethodId} {args : Array Value} {below : List Frame} {meth : Method} {c : Code} {H H0 : Heap} {locs : List Loc} {cells slots : Nat} {Q : State → Prop} {pc : Nat} {ls : Array Slot} {rest st0 : List Value} {A0 : Nat → Prop} {D : zG} {y : MethodName} {bytes cc : ByteArray} {maxL nL n index : Nat} {ret : Option FieldType} {wy Ts : List Cond} {rm : Room} {own : String} {As : List Value} {ws wc w1 wn : va_W} {RV : Int32} 
    (S : CallFix p m c cc nL s args Ts own) (hM : Met l y wy rm (va_Pc As (zW D H.size wc)) (va_Qi (fun r (_ : Unit) => r = RV ∧ (r = 0 ∨ r = 1)) (fun _ => zB D (va_A wc H.size) w1) (va_A wc H.size)) 0 0 (va_A wc H.size)) (cw : CallB R s args own index y bytes maxL ret wy rm 0 0 n ∧ (Cond.static y).before args s = true)
    (hK : zK D s) (hP : va_P D.1 vwCl ws H) (hD : va_D A0 ws) (hS : va_S A0 H0 H locs) (hA : ∀ q, H0.size ≤ q → A0 q)
    (isC isR pm : List Nat) (hC : isC.map (fun i => ws[i]?) = wc.map some) (hnC : va_nd isC = true) (hR : isR.map (fun i => ws[i]?) = (isR.filterMap (fun i => ws[i]?)).map some) (hnR : va_nd isR = true) (hdis : ∀ i ∈ isR, i ∉ isC) (hpm : pm.map (fun i => ((isR.filterMap (fun i => ws[i]?)) ++ w1)[i]?) = wn.map some) (hnp : va_nd pm = true)
    (hn : As.length = n) (hsize : ls.size = nL) (hst : st0 = As.reverse ++ rest) (hW : (rest.map fun v => v.category).sum ≤ 8) (hdg : decode cc pc = .ok (.invokestatic index, 3)) (hf : cells ≤ R.cells ∧ slots ≤ R.slots)
    (kk : ∀ (H1 : Heap) (locs1 : List Loc), (RV = 0 ∨ RV = 1) → va_P D.1 vwCl wn H1 → va_D A0 wn → va_S A0 H0 H1 locs1 → W p l e R s m args below meth c H1 locs1 cells slots Q (F0 m (pc + 3) ls (.int RV :: rest))) : W p l e R s m args below meth c H locs cells slots Q (F0 m pc ls st0) := by
  have hPc : va_P D.1 vwCl wc H := hP.sub isC (by rw [zfm hC])
  have hDc : va_D A0 wc := hD.sub isC hnC hC
  have hFc := va_free (wc := wc) hD hS hA isC hC
  subst hst
  refine va_calli (va_runS (rest := rest) S hM cw ⟨zBlind, fun U hU hW => zPre hPc hDc hK hU hW⟩ rfl hn hsize rfl (lv_room hW) hdg hf) hS (fun q _ h => hFc q h) hFc (fun r u t H1 locs1 ht hvm hp hB hz hk hS1 => ?_)
  obtain ⟨rfl, hp⟩ := hp
  obtain ⟨hP1, hD1⟩ := hB
  rw [ht] at hP1
  obtain ⟨hP2, hD2⟩ := va_join (wr := isR.filterMap (fun i => ws[i]?)) (w1 := w1) hP hD isC isR hC hR hnR hdis hk hFc hP1 hD1
  exact kk H1 locs1 hp (hP2.sub pm (zfm hpm)) (hD2.sub pm hnp hpm) hS1
theorem zSl {p : Program} {l : Launch} {e : Env} {R : Room} {s : State} {m : MethodId} {args : Array Value} {below : List Frame} {meth : Method} {c : Code} {H H0 : Heap} {locs : List Loc} {cells slots : Nat} {Q : State → Prop} {pc : Nat} {ls : Array Slot} {rest st0 : List Value} {A0 : Nat → Prop} {D : zG} {y : MethodName} {bytes cc : ByteArray} {maxL nL n index : Nat} {ret : Option FieldType} {wy Ts : List Cond} {rm : Room} {own : String} {As : List Value} {ws wc w1 wn : va_W} {RV : Int64} 
    (S : CallFix p m c cc nL s args Ts own) (hM : Met l y wy rm (va_Pc As (zW D H.size wc)) (va_Ql (fun r (_ : Unit) => r = RV) (fun _ => zB D (va_A wc H.size) w1) (va_A wc H.size)) 0 0 (va_A wc H.size)) (cw : CallB R s args own index y bytes maxL ret wy rm 0 0 n ∧ (Cond.static y).before args s = true)
    (hK : zK D s) (hP : va_P D.1 vwCl ws H) (hD : va_D A0 ws) (hS : va_S A0 H0 H locs) (hA : ∀ q, H0.size ≤ q → A0 q)
    (isC isR pm : List Nat) (hC : isC.map (fun i => ws[i]?) = wc.map some) (hnC : va_nd isC = true) (hR : isR.map (fun i => ws[i]?) = (isR.filterMap (fun i => ws[i]?)).map some) (hnR : va_nd isR = true) (hdis : ∀ i ∈ isR, i ∉ isC) (hpm : pm.map (fun i => ((isR.filterMap (fun i => ws[i]?)) ++ w1)[i]?) = wn.map some) (hnp : va_nd pm = true)
    (hn : As.length = n) (hsize : ls.size = nL) (hst : st0 = As.reverse ++ rest) (hW : (rest.map fun v => v.category).sum ≤ 8) (hdg : decode cc pc = .ok (.invokestatic index, 3)) (hf : cells ≤ R.cells ∧ slots ≤ R.slots)
    (kk : ∀ (H1 : Heap) (locs1 : List Loc), va_P D.1 vwCl wn H1 → va_D A0 wn → va_S A0 H0 H1 locs1 → W p l e R s m args below meth c H1 locs1 cells slots Q (F0 m (pc + 3) ls (.long RV :: rest))) : W p l e R s m args below meth c H locs cells slots Q (F0 m pc ls st0) := by
  have hPc : va_P D.1 vwCl wc H := hP.sub isC (by rw [zfm hC])
  have hDc : va_D A0 wc := hD.sub isC hnC hC
  have hFc := va_free (wc := wc) hD hS hA isC hC
  subst hst
  refine va_calll (va_runS (rest := rest) S hM cw ⟨zBlind, fun U hU hW => zPre hPc hDc hK hU hW⟩ rfl hn hsize rfl (lv_room hW) hdg hf) hS (fun q _ h => hFc q h) hFc (fun r u t H1 locs1 ht hvm hp hB hz hk hS1 => ?_)
  subst hp
  obtain ⟨hP1, hD1⟩ := hB
  rw [ht] at hP1
  obtain ⟨hP2, hD2⟩ := va_join (wr := isR.filterMap (fun i => ws[i]?)) (w1 := w1) hP hD isC isR hC hR hnR hdis hk hFc hP1 hD1
  exact kk H1 locs1 (hP2.sub pm (zfm hpm)) (hD2.sub pm hnp hpm) hS1
theorem zSv {p : Program} {l : Launch} {e : Env} {R : Room} {s : State} {m : MethodId} {args : Array Value} {below : List Frame} {meth : Method} {c : Code} {H H0 : Heap} {locs : List Loc} {cells slots : Nat} {Q : State → Prop} {pc : Nat} {ls : Array Slot} {rest st0 : List Value} {A0 : Nat → Prop} {D : zG} {y : MethodName} {bytes cc : ByteArray} {maxL nL n index : Nat} {ret : Option FieldType} {wy Ts : List Cond} {rm : Room} {own : String} {As : List Value} {ws wc w1 wn : va_W} 
    (S : CallFix p m c cc nL s args Ts own) (hM : Met l y wy rm (va_Pc As (zW D H.size wc)) (va_Qv (fun (_ : Unit) => True) (fun _ => zB D (va_A wc H.size) w1) (va_A wc H.size)) 0 0 (va_A wc H.size)) (cw : CallB R s args own index y bytes maxL ret wy rm 0 0 n ∧ (Cond.static y).before args s = true)
    (hK : zK D s) (hP : va_P D.1 vwCl ws H) (hD : va_D A0 ws) (hS : va_S A0 H0 H locs) (hA : ∀ q, H0.size ≤ q → A0 q)
    (isC isR pm : List Nat) (hC : isC.map (fun i => ws[i]?) = wc.map some) (hnC : va_nd isC = true) (hR : isR.map (fun i => ws[i]?) = (isR.filterMap (fun i => ws[i]?)).map some) (hnR : va_nd isR = true) (hdis : ∀ i ∈ isR, i ∉ isC) (hpm : pm.map (fun i => ((isR.filterMap (fun i => ws[i]?)) ++ w1)[i]?) = wn.map some) (hnp : va_nd pm = true)
    (hn : As.length = n) (hsize : ls.size = nL) (hst : st0 = As.reverse ++ rest) (hW : (rest.map fun v => v.category).sum ≤ 8) (hdg : decode cc pc = .ok (.invokestatic index, 3)) (hf : cells ≤ R.cells ∧ slots ≤ R.slots)
    (kk : ∀ (H1 : Heap) (locs1 : List Loc), va_P D.1 vwCl wn H1 → va_D A0 wn → va_S A0 H0 H1 locs1 → W p l e R s m args below meth c H1 locs1 cells slots Q (F0 m (pc + 3) ls (rest))) : W p l e R s m args below meth c H locs cells slots Q (F0 m pc ls st0) := by
  have hPc : va_P D.1 vwCl wc H := hP.sub isC (by rw [zfm hC])
  have hDc : va_D A0 wc := hD.sub isC hnC hC
  have hFc := va_free (wc := wc) hD hS hA isC hC
  subst hst
  refine va_callv (va_runS (rest := rest) S hM cw ⟨zBlind, fun U hU hW => zPre hPc hDc hK hU hW⟩ rfl hn hsize rfl (lv_room hW) hdg hf) hS (fun q _ h => hFc q h) hFc (fun u t H1 locs1 ht hvm hp hB hz hk hS1 => ?_)
  skip
  obtain ⟨hP1, hD1⟩ := hB
  rw [ht] at hP1
  obtain ⟨hP2, hD2⟩ := va_join (wr := isR.filterMap (fun i => ws[i]?)) (w1 := w1) hP hD isC isR hC hR hnR hdis hk hFc hP1 hD1
  exact kk H1 locs1 (hP2.sub pm (zfm hpm)) (hD2.sub pm hnp hpm) hS1
theorem zNz {p : Program} {l : Launch} {e : Env} {R : Room} {s : State} {m : MethodId} {args : Array Value} {below : List Frame} {meth : Method} {c : Code} {H H0 : Heap} {locs : List Loc} {cells slots : Nat} {Q : State → Prop} {pc : Nat} {ls : Array Slot} {rest st0 : List Value} {A0 : Nat → Prop} {D : zG} {y : MethodName} {bytes cc : ByteArray} {maxL nL n index : Nat} {ret : Option FieldType} {wy Ts : List Cond} {rm : Room} {own : String} {As : List Value} {ws wc w1 wn : va_W} {RV : Int32} {host : String}
    (S : CallFix p m c cc nL s args Ts own) (hM : Met l y wy rm (va_Pc As (zW D H.size wc)) (va_Qi (fun r (_ : Unit) => r = RV ∧ (r = 0 ∨ r = 1)) (fun _ => zB D (va_A wc H.size) w1) (va_A wc H.size)) 0 0 (va_A wc H.size)) (cw : va_CN R s args own index y host bytes maxL ret wy rm 0 0 n ∧ (Cond.static y).before args s = true ∧ True)
    (hK : zK D s) (hP : va_P D.1 vwCl ws H) (hD : va_D A0 ws) (hS : va_S A0 H0 H locs) (hA : ∀ q, H0.size ≤ q → A0 q)
    (isC isR pm : List Nat) (hC : isC.map (fun i => ws[i]?) = wc.map some) (hnC : va_nd isC = true) (hR : isR.map (fun i => ws[i]?) = (isR.filterMap (fun i => ws[i]?)).map some) (hnR : va_nd isR = true) (hdis : ∀ i ∈ isR, i ∉ isC) (hpm : pm.map (fun i => ((isR.filterMap (fun i => ws[i]?)) ++ w1)[i]?) = wn.map some) (hnp : va_nd pm = true)
    (hn : As.length = n) (hsize : ls.size = nL) (hst : st0 = As.reverse ++ rest) (hW : (rest.map fun v => v.category).sum ≤ 8) (hdg : decode cc pc = .ok (.invokestatic index, 3)) (hf : cells ≤ R.cells ∧ slots ≤ R.slots)
    (kk : ∀ (H1 : Heap) (locs1 : List Loc), (RV = 0 ∨ RV = 1) → va_P D.1 vwCl wn H1 → va_D A0 wn → va_S A0 H0 H1 locs1 → W p l e R s m args below meth c H1 locs1 cells slots Q (F0 m (pc + 3) ls (.int RV :: rest))) : W p l e R s m args below meth c H locs cells slots Q (F0 m pc ls st0) := by
  have hPc : va_P D.1 vwCl wc H := hP.sub isC (by rw [zfm hC])
  have hDc : va_D A0 wc := hD.sub isC hnC hC
  have hFc := va_free (wc := wc) hD hS hA isC hC
  subst hst
  refine va_calli (va_runSN (rest := rest) S hM cw ⟨zBlind, fun U hU hW => zPre hPc hDc hK hU hW⟩ rfl hn hsize rfl (lv_room hW) hdg hf) hS (fun q _ h => hFc q h) hFc (fun r u t H1 locs1 ht hvm hp hB hz hk hS1 => ?_)
  obtain ⟨rfl, hp⟩ := hp
  obtain ⟨hP1, hD1⟩ := hB
  rw [ht] at hP1
  obtain ⟨hP2, hD2⟩ := va_join (wr := isR.filterMap (fun i => ws[i]?)) (w1 := w1) hP hD isC isR hC hR hnR hdis hk hFc hP1 hD1
  exact kk H1 locs1 hp (hP2.sub pm (zfm hpm)) (hD2.sub pm hnp hpm) hS1
