/-! ===== the world of the law ===== -/
def cX (D : zG) (A : Nat → Nat) (V : Nat → Int32) (GI : Nat → Nat → Int32) (GL : Nat → Nat → Int64) (o0 o1 o2 : Option Nat) : va_W := [((A 0), .inr (8, [.ref (A 1), .ref (A 2), .ref (A 3), .ref (A 4), .ref (A 5), .ref (A 6), .ref (A 7), .ref (A 8), .ref (A 9)])), ((A 1), .inr (6, [.ref (A 10), .ref (A 11), .ref (A 12), .ref (A 13), .ref (A 14), .int (V 0)])), ((A 10), .inr (7, [.ref (A 15), .int (V 1)])), ((A 15), .inl (D.2 0, 400, .inl (GI 0))), ((A 11), .inr (5, [.ref (A 16), .int (V 2)])), ((A 16), .inl (D.2 2, 40, .inr (.inl (GL 0)))), ((A 12), .inr (5, [.ref (A 17), .int (V 3)])), ((A 17), .inl (D.2 2, 40, .inr (.inl (GL 1)))), ((A 13), .inr (4, [.ref (A 18), .int (V 4)])), ((A 18), .inl (D.2 1, 12, .inl (GI 1))), ((A 14), .inr (1, [.int (V 5), .int (V 6)])), ((A 2), .inl (D.2 5, 3, .inr (.inr (.inr (.inr (zq3 o0 o1 o2)))))), ((A 3), .inr (3, [.ref (A 19), .int (V 7)])), ((A 19), .inl (D.2 4, 4, .inr (.inr (.inr (.inr (zq4 (some (A 20)) (some (A 21)) (some (A 22)) (some (A 23)))))))), ((A 20), .inr (5, [.ref (A 24), .int (V 8)])), ((A 24), .inl (D.2 2, 40, .inr (.inl (GL 2)))), ((A 21), .inr (5, [.ref (A 25), .int (V 9)])), ((A 25), .inl (D.2 2, 40, .inr (.inl (GL 3)))), ((A 22), .inr (5, [.ref (A 26), .int (V 10)])), ((A 26), .inl (D.2 2, 40, .inr (.inl (GL 4)))), ((A 23), .inr (5, [.ref (A 27), .int (V 11)])), ((A 27), .inl (D.2 2, 40, .inr (.inl (GL 5)))), ((A 4), .inr (0, [.ref (A 28), .ref (A 29), .ref (A 30), .ref (A 31), .ref (A 32), .int (V 12), .int (V 13), .int (V 14), .int (V 15)])), ((A 28), .inl (D.2 1, 13, .inl (GI 2))), ((A 29), .inl (D.2 1, 13, .inl (GI 3))), ((A 30), .inl (D.2 1, 13, .inl (GI 4))), ((A 31), .inl (D.2 1, 13, .inl (GI 5))), ((A 32), .inl (D.2 2, 13, .inr (.inl (GL 6)))), ((A 5), .inr (2, [.ref (A 33)])), ((A 33), .inr (5, [.ref (A 34), .int (V 16)])), ((A 34), .inl (D.2 2, 320, .inr (.inl (GL 7)))), ((A 6), .inr (2, [.ref (A 35)])), ((A 35), .inr (5, [.ref (A 36), .int (V 17)])), ((A 36), .inl (D.2 2, 320, .inr (.inl (GL 8)))), ((A 7), .inr (5, [.ref (A 37), .int (V 18)])), ((A 37), .inl (D.2 2, 40, .inr (.inl (GL 9)))), ((A 8), .inr (4, [.ref (A 38), .int (V 19)])), ((A 38), .inl (D.2 1, 12, .inl (GI 6))), ((A 9), .inl (D.2 1, 32, .inl (GI 7)))]
def cI0 (D : zG) (A : Nat → Nat) (V : Nat → Int32) (GI : Nat → Nat → Int32) (GL : Nat → Nat → Int64) : va_W := [((A 40), .inr (6, [.ref (A 41), .ref (A 43), .ref (A 45), .ref (A 47), .ref (A 49), .int (V 20)])), ((A 41), .inr (7, [.ref (A 42), .int (V 21)])), ((A 42), .inl (D.2 0, 400, .inl (GI 8))), ((A 43), .inr (5, [.ref (A 44), .int (V 22)])), ((A 44), .inl (D.2 2, 40, .inr (.inl (GL 10)))), ((A 45), .inr (5, [.ref (A 46), .int (V 23)])), ((A 46), .inl (D.2 2, 40, .inr (.inl (GL 11)))), ((A 47), .inr (4, [.ref (A 48), .int (V 24)])), ((A 48), .inl (D.2 1, 12, .inl (GI 9))), ((A 49), .inr (1, [.int (V 25), .int (V 26)]))]
def cI1 (D : zG) (A : Nat → Nat) (V : Nat → Int32) (GI : Nat → Nat → Int32) (GL : Nat → Nat → Int64) : va_W := [((A 50), .inr (6, [.ref (A 51), .ref (A 53), .ref (A 55), .ref (A 57), .ref (A 59), .int (V 27)])), ((A 51), .inr (7, [.ref (A 52), .int (V 28)])), ((A 52), .inl (D.2 0, 400, .inl (GI 10))), ((A 53), .inr (5, [.ref (A 54), .int (V 29)])), ((A 54), .inl (D.2 2, 40, .inr (.inl (GL 12)))), ((A 55), .inr (5, [.ref (A 56), .int (V 30)])), ((A 56), .inl (D.2 2, 40, .inr (.inl (GL 13)))), ((A 57), .inr (4, [.ref (A 58), .int (V 31)])), ((A 58), .inl (D.2 1, 12, .inl (GI 11))), ((A 59), .inr (1, [.int (V 32), .int (V 33)]))]
def cI2 (D : zG) (A : Nat → Nat) (V : Nat → Int32) (GI : Nat → Nat → Int32) (GL : Nat → Nat → Int64) : va_W := [((A 60), .inr (6, [.ref (A 61), .ref (A 63), .ref (A 65), .ref (A 67), .ref (A 69), .int (V 34)])), ((A 61), .inr (7, [.ref (A 62), .int (V 35)])), ((A 62), .inl (D.2 0, 400, .inl (GI 12))), ((A 63), .inr (5, [.ref (A 64), .int (V 36)])), ((A 64), .inl (D.2 2, 40, .inr (.inl (GL 14)))), ((A 65), .inr (5, [.ref (A 66), .int (V 37)])), ((A 66), .inl (D.2 2, 40, .inr (.inl (GL 15)))), ((A 67), .inr (4, [.ref (A 68), .int (V 38)])), ((A 68), .inl (D.2 1, 12, .inl (GI 13))), ((A 69), .inr (1, [.int (V 39), .int (V 40)]))]
def cM (D : zG) (B : Nat → Nat) (MV : Nat → Int32) (MG : Nat → Nat → Int32) : va_W := [((B 0), .inr (9, [.ref (B 1), .ref (B 2), .ref (B 3), .int (MV 0), .int (MV 1), .int (MV 2), .int (MV 3), .ref (B 4), .ref (B 5), .int (MV 4), .ref (B 6), .ref (B 7), .int (MV 5), .int (MV 6), .ref (B 8), .ref (B 9), .ref (B 10), .int (MV 7), .ref (B 11), .ref (B 12)])), ((B 1), .inl (D.2 1, 5228, .inl (MG 0))), ((B 2), .inl (D.2 1, 400, .inl (MG 1))), ((B 3), .inl (D.2 3, 3, .inl (MG 2))), ((B 4), .inl (D.2 1, 320, .inl (MG 3))), ((B 5), .inl (D.2 1, 320, .inl (MG 4))), ((B 6), .inl (D.2 1, 40, .inl (MG 5))), ((B 7), .inl (D.2 1, 14, .inl (MG 6))), ((B 8), .inl (D.2 1, 40, .inl (MG 7))), ((B 9), .inl (D.2 1, 40, .inl (MG 8))), ((B 10), .inl (D.2 1, 40, .inl (MG 9))), ((B 11), .inl (D.2 1, 128, .inl (MG 10))), ((B 12), .inl (D.2 1, 320, .inl (MG 11)))]
def oI : Bool → Nat → Option Nat
  | true, a => some a
  | false, _ => none
def cT : Bool → va_W → va_W
  | true, w => w
  | false, _ => []
def wl (D : zG) (A B : Nat → Nat) (V : Nat → Int32) (GI : Nat → Nat → Int32) (GL : Nat → Nat → Int64) (pres : Nat → Bool) (MV : Nat → Int32) (MG : Nat → Nat → Int32) : va_W :=
  cX D A V GI GL (oI (pres 0) (A 40)) (oI (pres 1) (A 50)) (oI (pres 2) (A 60)) ++ (cM D B MV MG ++ (cT (pres 0) (cI0 D A V GI GL) ++ (cT (pres 1) (cI1 D A V GI GL) ++ cT (pres 2) (cI2 D A V GI GL))))
/-- cells, apart -/
def zJ (D : zG) (A0 : Nat → Prop) (ws : va_W) (H : Heap) : Prop := va_P D.1 vwCl ws H ∧ va_D A0 ws
theorem zPl {D : va_G} {cl : List vw_C} {X pl : va_W} {H : Heap} (h : va_P D cl (X ++ pl) H) : va_P D cl X H := fun k q hk => h k q (by rw [List.getElem?_append_left (List.getElem?_eq_some_iff.mp hk).1]; exact hk)
theorem zDl {A0 : Nat → Prop} {X pl : va_W} (h : va_D A0 (X ++ pl)) : va_D A0 X :=
  ⟨fun i j p q hi hj e => h.1 i j p q (by rw [List.getElem?_append_left (List.getElem?_eq_some_iff.mp hi).1]; exact hi) (by rw [List.getElem?_append_left (List.getElem?_eq_some_iff.mp hj).1]; exact hj) e, fun k q hk => h.2 k q (by rw [List.getElem?_append_left (List.getElem?_eq_some_iff.mp hk).1]; exact hk)⟩
theorem zsw {D : zG} {A0 : Nat → Prop} {X a b c : va_W} {H : Heap} (h : zJ D A0 (X ++ (a ++ (b ++ c))) H) : zJ D A0 (X ++ (b ++ (a ++ c))) H := by
  have h1 : zJ D A0 ((X ++ a) ++ (b ++ c)) H := by rw [List.append_assoc]; exact h
  have h2 : zJ D A0 ((X ++ (b ++ c)) ++ a) H := ⟨h1.1.swap, h1.2.swap⟩
  have h3 : zJ D A0 (((X ++ b) ++ c) ++ a) H := by rw [List.append_assoc X b c]; exact h2
  have h4 : zJ D A0 (((X ++ b) ++ a) ++ c) H := ⟨h3.1.swap, h3.2.swap⟩
  rw [List.append_assoc, List.append_assoc] at h4
  exact h4
theorem zsw0 {D : zG} {A0 : Nat → Prop} {a b c : va_W} {H : Heap} (h : zJ D A0 (a ++ (b ++ c)) H) : zJ D A0 (b ++ (a ++ c)) H := zsw (X := []) h
theorem zas {D : zG} {A0 : Nat → Prop} {a b c : va_W} {H : Heap} (h : zJ D A0 (a ++ (b ++ c)) H) : zJ D A0 ((a ++ b) ++ c) H := by rw [List.append_assoc]; exact h
theorem zas' {D : zG} {A0 : Nat → Prop} {a b c : va_W} {H : Heap} (h : zJ D A0 ((a ++ b) ++ c) H) : zJ D A0 (a ++ (b ++ c)) H := by rw [List.append_assoc] at h; exact h
/-- a call that has the cells at some places of X; the tail stays -/
theorem zTi {p : Program} {l : Launch} {e : Env} {R : Room} {s : State} {m : MethodId} {args : Array Value} {below : List Frame} {meth : Method} {c : Code} {H H0 : Heap} {locs : List Loc} {cells slots : Nat} {Q : State → Prop} {pc : Nat} {ls : Array Slot} {rest st0 : List Value} {A0 : Nat → Prop} {D : zG} {y : MethodName} {bytes cc : ByteArray} {maxL nL n index mc ms : Nat} {ret : Option FieldType} {wy Ts : List Cond} {rm : Room} {own : String} {As : List Value} {X pl wc : va_W} {U1 : Type} {w1 wn : U1 → va_W} {post : Int32 → U1 → Prop} {RV : Int32} {b ci q0 NN : Nat} {C : String} {T : u_T} {fs : List Value}
    (S : CallFix p m c cc nL s args Ts own) (hM : Met l y wy rm (va_Pc (.ref b :: As) (zW D H.size wc)) (va_Qi post (fun u => zB D (va_A wc H.size) (w1 u)) (va_A wc H.size)) mc ms (va_A wc H.size)) (hpost : ∀ r u, post r u → r = RV) (cw : CallW R s args own C index y bytes maxL ret wy rm mc ms n)
    (hK : zK D s) (hJ : zJ D A0 (X ++ pl) H) (hS : va_S A0 H0 H locs) (hA : ∀ q, H0.size ≤ q → A0 q)
    (isC isR pm : List Nat) (hC : isC.map (fun i => X[i]?) = wc.map some) (hnC : va_nd isC = true) (hR : isR.map (fun i => X[i]?) = (isR.filterMap (fun i => X[i]?)).map some) (hnR : va_nd isR = true) (hdis : ∀ i ∈ isR, i ∉ isC) (hpm : ∀ u, pm.map (fun i => ((isR.filterMap (fun i => X[i]?)) ++ w1 u)[i]?) = (wn u).map some) (hnp : va_nd pm = true)
    (hc : vwCl[ci]? = some (C, T, NN)) (he : wc[q0]? = some (b, .inr (ci, fs))) (hn : As.length = n) (hsize : ls.size = nL) (hst : st0 = As.reverse ++ .ref b :: rest) (hW : (rest.map fun v => v.category).sum ≤ 8) (hdg : decode cc pc = .ok (.invokevirtual index, 3)) (hf : cells + mc ≤ R.cells ∧ slots + ms ≤ R.slots)
    (kk : ∀ (u : U1) (H1 : Heap) (locs1 : List Loc), zJ D A0 (wn u ++ pl) H1 → va_S A0 H0 H1 locs1 → W p l e R s m args below meth c H1 locs1 (cells + mc) (slots + ms) Q (F0 m (pc + 3) ls (.int RV :: rest))) : W p l e R s m args below meth c H locs cells slots Q (F0 m pc ls st0) := by
  obtain ⟨hP, hD⟩ := hJ
  have hPc : va_P D.1 vwCl wc H := (zPl hP).sub isC (by rw [zfm hC])
  have hDc : va_D A0 wc := (zDl hD).sub isC hnC hC
  have hFc := va_free (wc := wc) (zDl hD) hS hA isC hC
  subst hst
  refine va_calli (va_runV (rest := rest) S hM cw ⟨zBlind, va_recv hK.1 hPc hc he, fun U hU hW => zPre hPc hDc hK hU hW⟩ rfl hn hsize rfl (lv_room hW) hdg hf) hS (fun q _ h => hFc q h) hFc (fun r u t H1 locs1 ht hvm hp hB hz hk hS1 => ?_)
  obtain ⟨hP1, hD1⟩ := hB
  rw [ht] at hP1
  obtain ⟨hP2, hD2⟩ := va_joinQ (wr := isR.filterMap (fun i => X[i]?)) (w1 := w1 u) hP hD isC isR hC hR hnR hdis hk hFc hP1 hD1
  rw [hpost r u hp]
  exact kk u H1 locs1 ⟨hP2.part pm (hpm u), hD2.part pm hnp (hpm u)⟩ hS1
theorem z0in {D : zG} {A0 : Nat → Prop} {X M I r : va_W} {H : Heap} (h : zJ D A0 (X ++ (M ++ (I ++ r))) H) : zJ D A0 ((X ++ I) ++ (M ++ r)) H := zas (zsw h)
theorem z0out {D : zG} {A0 : Nat → Prop} {X M I r : va_W} {H : Heap} (h : zJ D A0 ((X ++ I) ++ (M ++ r)) H) : zJ D A0 (X ++ (M ++ (I ++ r))) H := zsw (zas' h)
theorem z1in {D : zG} {A0 : Nat → Prop} {X M T I r : va_W} {H : Heap} (h : zJ D A0 (X ++ (M ++ (T ++ (I ++ r)))) H) : zJ D A0 ((X ++ I) ++ (M ++ (T ++ r))) H := z0in (zas' (zsw (zas h)))
theorem z1out {D : zG} {A0 : Nat → Prop} {X M T I r : va_W} {H : Heap} (h : zJ D A0 ((X ++ I) ++ (M ++ (T ++ r))) H) : zJ D A0 (X ++ (M ++ (T ++ (I ++ r)))) H := zas' (zsw (zas (z0out h)))
theorem z2nil {D : zG} {A0 : Nat → Prop} {X M T S : va_W} {H : Heap} (h : zJ D A0 (X ++ (M ++ (T ++ (S ++ [])))) H) : zJ D A0 (X ++ (M ++ (T ++ S))) H := by rw [List.append_nil] at h; exact h
theorem z2in {D : zG} {A0 : Nat → Prop} {X M T S I : va_W} {H : Heap} (h : zJ D A0 (X ++ (M ++ (T ++ (S ++ I)))) H) : zJ D A0 ((X ++ I) ++ (M ++ (T ++ S))) H := by
  have h1 : zJ D A0 ((X ++ M) ++ (T ++ (S ++ (I ++ [])))) H := by rw [List.append_nil]; exact zas h
  have h2 := zsw (zas' (zsw (zas h1)))
  have h3 := z0in (zas' h2)
  rw [List.append_nil] at h3
  exact h3
theorem z2out {D : zG} {A0 : Nat → Prop} {X M T S I : va_W} {H : Heap} (h : zJ D A0 ((X ++ I) ++ (M ++ (T ++ S))) H) : zJ D A0 (X ++ (M ++ (T ++ (S ++ I)))) H := by
  have h0 : zJ D A0 ((X ++ I) ++ (M ++ (T ++ (S ++ [])))) H := by rw [List.append_nil]; exact h
  have h1 := zsw (zas (zsw (zas (z0out h0))))
  rw [List.append_nil] at h1
  exact zas' (zas' h1)
theorem wl_p0 {D : zG} {A B : Nat → Nat} {V : Nat → Int32} {GI : Nat → Nat → Int32} {GL : Nat → Nat → Int64} {pres : Nat → Bool} {MV : Nat → Int32} {MG : Nat → Nat → Int32} (hk : pres 0 = true) : wl D A B V GI GL pres MV MG = cX D A V GI GL (some (A 40)) (oI (pres 1) (A 50)) (oI (pres 2) (A 60)) ++ (cM D B MV MG ++ (cI0 D A V GI GL ++ (cT (pres 1) (cI1 D A V GI GL) ++ cT (pres 2) (cI2 D A V GI GL)))) := by
  unfold wl
  rw [hk]
  rfl
theorem wl_n0 {D : zG} {A B : Nat → Nat} {V : Nat → Int32} {GI : Nat → Nat → Int32} {GL : Nat → Nat → Int64} {pres : Nat → Bool} {MV : Nat → Int32} {MG : Nat → Nat → Int32} (hk : pres 0 = false) : wl D A B V GI GL pres MV MG = cX D A V GI GL (none) (oI (pres 1) (A 50)) (oI (pres 2) (A 60)) ++ (cM D B MV MG ++ ([] ++ (cT (pres 1) (cI1 D A V GI GL) ++ cT (pres 2) (cI2 D A V GI GL)))) := by
  unfold wl
  rw [hk]
  rfl
theorem wl_p1 {D : zG} {A B : Nat → Nat} {V : Nat → Int32} {GI : Nat → Nat → Int32} {GL : Nat → Nat → Int64} {pres : Nat → Bool} {MV : Nat → Int32} {MG : Nat → Nat → Int32} (hk : pres 1 = true) : wl D A B V GI GL pres MV MG = cX D A V GI GL (oI (pres 0) (A 40)) (some (A 50)) (oI (pres 2) (A 60)) ++ (cM D B MV MG ++ (cT (pres 0) (cI0 D A V GI GL) ++ (cI1 D A V GI GL ++ cT (pres 2) (cI2 D A V GI GL)))) := by
  unfold wl
  rw [hk]
  rfl
theorem wl_n1 {D : zG} {A B : Nat → Nat} {V : Nat → Int32} {GI : Nat → Nat → Int32} {GL : Nat → Nat → Int64} {pres : Nat → Bool} {MV : Nat → Int32} {MG : Nat → Nat → Int32} (hk : pres 1 = false) : wl D A B V GI GL pres MV MG = cX D A V GI GL (oI (pres 0) (A 40)) (none) (oI (pres 2) (A 60)) ++ (cM D B MV MG ++ (cT (pres 0) (cI0 D A V GI GL) ++ ([] ++ cT (pres 2) (cI2 D A V GI GL)))) := by
  unfold wl
  rw [hk]
  rfl
theorem wl_p2 {D : zG} {A B : Nat → Nat} {V : Nat → Int32} {GI : Nat → Nat → Int32} {GL : Nat → Nat → Int64} {pres : Nat → Bool} {MV : Nat → Int32} {MG : Nat → Nat → Int32} (hk : pres 2 = true) : wl D A B V GI GL pres MV MG = cX D A V GI GL (oI (pres 0) (A 40)) (oI (pres 1) (A 50)) (some (A 60)) ++ (cM D B MV MG ++ (cT (pres 0) (cI0 D A V GI GL) ++ (cT (pres 1) (cI1 D A V GI GL) ++ cI2 D A V GI GL))) := by
  unfold wl
  rw [hk]
  rfl
theorem wl_n2 {D : zG} {A B : Nat → Nat} {V : Nat → Int32} {GI : Nat → Nat → Int32} {GL : Nat → Nat → Int64} {pres : Nat → Bool} {MV : Nat → Int32} {MG : Nat → Nat → Int32} (hk : pres 2 = false) : wl D A B V GI GL pres MV MG = cX D A V GI GL (oI (pres 0) (A 40)) (oI (pres 1) (A 50)) (none) ++ (cM D B MV MG ++ (cT (pres 0) (cI0 D A V GI GL) ++ (cT (pres 1) (cI1 D A V GI GL) ++ []))) := by
  unfold wl
  rw [hk]
  rfl
