theorem zsI {V : Nat → Int32} {i : Nat} {x : Int32} (h : V i = x) : sI V i x = V := by
  funext j
  unfold sI
  by_cases hj : j = i
  · rw [if_pos hj, hj, h]
  · rw [if_neg hj]

set_option maxHeartbeats 4000000 in
set_option maxRecDepth 100000 in
theorem lc_feed {p : Program} {l : Launch} {e : Env} {s : State} {m : MethodId} {below : List Frame} {meth : Method} {c : Code} {D : zG} {b L : Nat} {xs : Nat → Int32} {xi : Int32} {A B : Nat → Nat} {V : Nat → Int32} {GI : Nat → Nat → Int32} {GL : Nat → Nat → Int64} {pres : Nat → Bool} {MV : Nat → Int32} {MG : Nat → Nat → Int32} {H : Heap} {locs : List Loc} {cells slots : Nat} {Q : State → Prop} {ls : Array Slot} (C0 : lw_At p s m meth c b L xs) (hK : zK D s) (hcs : cells ≤ 500000 ∧ slots ≤ 7000000) (hj1 : vp_in (xi + 1) L) (hj2 : vp_in (xi + 2) L) (hj3 : vp_in (xi + 3) L) (hj4 : vp_in (xi + 4) L) (hj5 : vp_in (xi + 5) L) (hl : lv_has ls 4 [(0, .ref b), (1, .ref (A 0)), (2, .ref (B 0)), (3, .int xi)]) (hI : Inv V GI GL pres MV MG) (hJ : zJ D (fun q : Nat => s.heap.size ≤ q) (wl D A B V GI GL pres MV MG) H) (hS : va_S (fun q : Nat => s.heap.size ≤ q) s.heap H locs) (kk : ∀ (A' : Nat → Nat) (V' : Nat → Int32) (GI' : Nat → Nat → Int32) (GL' : Nat → Nat → Int64) (pres' : Nat → Bool) (MV' : Nat → Int32) (MG' : Nat → Nat → Int32) (H' : Heap) (locs' : List Loc), A' 0 = A 0 → Inv V' GI' GL' pres' MV' MG' → zJ D (fun q : Nat => s.heap.size ≤ q) (wl D A' B V' GI' GL' pres' MV' MG') H' → va_S (fun q : Nat => s.heap.size ≤ q) s.heap H' locs' → W p l e room_1 s m #[Value.ref b] below meth c H' locs' (cells + 20) (slots + 1000) Q (F0 m 833 ls [])) : W p l e room_1 s m #[Value.ref b] below meth c H locs cells slots Q (F0 m 140 ls []) := by
  obtain ⟨hx, hb, hr, hml, hown, hts0, hX, hbl, hlocks, hgv⟩ := C0
  have hts : ∀ w ∈ wsL_law, w.before #[Value.ref b] s = true := fun w h => hts0 w (wsL_law_in w h)
  have hA : ∀ q : Nat, s.heap.size ≤ q → (fun q : Nat => s.heap.size ≤ q) q := fun _ h => h
  have hbA : ¬ (fun q : Nat => s.heap.size ≤ q) b := Nat.not_le.mpr hbl
  obtain ⟨res, resM, hf, hfM, he, hI⟩ := Lw_feed (N := 1000) (xs (xi + 1).toNatClampNeg) (xs (xi + 2).toNatClampNeg) (xs (xi + 3).toNatClampNeg) (xs (xi + 4).toNatClampNeg) (xs (xi + 5).toNatClampNeg) (Nat.le_refl _) hI
  refine lv_aload_n hx hb dL_law_140 rfl (lv_at hl 1 rfl) ?_
  refine lv_aload_n hx hb dL_law_141 rfl (lv_at hl 0 rfl) ?_
  refine lv_iload_n hx hb dL_law_142 rfl (lv_at hl 3 rfl) ?_
  refine lv_iconst (v := 1) hx hb dL_law_143 (by decide) ?_
  refine lv_iadd hx hb dL_law_144 ?_
  refine va_sld hx hb hX hbl hbA hS hj1 dL_law_145 ?_
  refine lv_aload_n hx hb dL_law_146 rfl (lv_at hl 0 rfl) ?_
  refine lv_iload_n hx hb dL_law_147 rfl (lv_at hl 3 rfl) ?_
  refine lv_iconst (v := 2) hx hb dL_law_148 (by decide) ?_
  refine lv_iadd hx hb dL_law_149 ?_
  refine va_sld hx hb hX hbl hbA hS hj2 dL_law_150 ?_
  refine lv_aload_n hx hb dL_law_151 rfl (lv_at hl 0 rfl) ?_
  refine lv_iload_n hx hb dL_law_152 rfl (lv_at hl 3 rfl) ?_
  refine lv_iconst (v := 3) hx hb dL_law_153 (by decide) ?_
  refine lv_iadd hx hb dL_law_154 ?_
  refine va_sld hx hb hX hbl hbA hS hj3 dL_law_155 ?_
  refine lv_aload_n hx hb dL_law_156 rfl (lv_at hl 0 rfl) ?_
  refine lv_iload_n hx hb dL_law_157 rfl (lv_at hl 3 rfl) ?_
  refine lv_iconst (v := 4) hx hb dL_law_158 (by decide) ?_
  refine lv_iadd hx hb dL_law_159 ?_
  refine va_sld hx hb hX hbl hbA hS hj4 dL_law_160 ?_
  refine lv_aload_n hx hb dL_law_161 rfl (lv_at hl 0 rfl) ?_
  refine lv_iload_n hx hb dL_law_162 rfl (lv_at hl 3 rfl) ?_
  refine lv_iconst (v := 5) hx hb dL_law_163 (by decide) ?_
  refine lv_iadd hx hb dL_law_164 ?_
  refine va_sld hx hb hX hbl hbA hS hj5 dL_law_165 ?_
  refine zTi (As := [.int (xs (xi + 1).toNatClampNeg), .int (xs (xi + 2).toNatClampNeg), .int (xs (xi + 3).toNatClampNeg), .int (xs (xi + 4).toNatClampNeg), .int (xs (xi + 5).toNatClampNeg)]) (rest := []) (ci := 8) (q0 := 0) (RV := res.1) (X := cX D A V GI GL (oI (pres 0) (A 40)) (oI (pres 1) (A 50)) (oI (pres 2) (A 60))) (pl := cM D B MV MG ++ (cT (pres 0) (cI0 D A V GI GL) ++ (cT (pres 1) (cI1 D A V GI GL) ++ cT (pres 2) (cI2 D A V GI GL)))) (wn := fun _ => cX D A (sI V 1 res.2.1) (sG GI 0 res.2.2) GL (oI (pres 0) (A 40)) (oI (pres 1) (A 50)) (oI (pres 2) (A 60))) ⟨hx, hb, hml, hown, hts⟩ (mX11_feed l D (A 0) (A 1) (A 2) (A 3) (A 4) (A 5) (A 6) (A 7) (A 8) (A 9) (A 10) (A 11) (A 12) (A 13) (A 14) (A 15) H.size (V 0) (V 1) (GI 0) (xs (xi + 1).toNatClampNeg) (xs (xi + 2).toNatClampNeg) (xs (xi + 3).toNatClampNeg) (xs (xi + 4).toNatClampNeg) (xs (xi + 5).toNatClampNeg) 1000 res hf) (fun _ _ h => h) (cwV 5 hts gL_law_X11_feed rfl rfl rfl (by decide +kernel) ⟨Nat.le_of_ble_eq_true rfl, Nat.le_of_ble_eq_true rfl⟩) hK hJ hS hA [0, 1, 2, 3] [4, 5, 6, 7, 8, 9, 10, 11, 12, 13, 14, 15, 16, 17, 18, 19, 20, 21, 22, 23, 24, 25, 26, 27, 28, 29, 30, 31, 32, 33, 34, 35, 36, 37, 38] [35, 36, 37, 38, 0, 1, 2, 3, 4, 5, 6, 7, 8, 9, 10, 11, 12, 13, 14, 15, 16, 17, 18, 19, 20, 21, 22, 23, 24, 25, 26, 27, 28, 29, 30, 31, 32, 33, 34] rfl (by decide +kernel) rfl (by decide +kernel) (by decide +kernel) (fun _ => rfl) (by decide +kernel) rfl rfl rfl hl.1 rfl (Nat.le_of_ble_eq_true rfl) dL_law_166 ⟨by show _ ≤ 600000; omega, by show _ ≤ 7302250; omega⟩ (fun _ H locs hJ hS => ?_)
  refine lv_aload_n hx hb dL_law_169 rfl (lv_at hl 2 rfl) ?_
  refine lv_aload_n hx hb dL_law_170 rfl (lv_at hl 0 rfl) ?_
  refine lv_iload_n hx hb dL_law_171 rfl (lv_at hl 3 rfl) ?_
  refine lv_iconst (v := 1) hx hb dL_law_172 (by decide) ?_
  refine lv_iadd hx hb dL_law_173 ?_
  refine va_sld hx hb hX hbl hbA hS hj1 dL_law_174 ?_
  refine lv_aload_n hx hb dL_law_175 rfl (lv_at hl 0 rfl) ?_
  refine lv_iload_n hx hb dL_law_176 rfl (lv_at hl 3 rfl) ?_
  refine lv_iconst (v := 2) hx hb dL_law_177 (by decide) ?_
  refine lv_iadd hx hb dL_law_178 ?_
  refine va_sld hx hb hX hbl hbA hS hj2 dL_law_179 ?_
  refine lv_aload_n hx hb dL_law_180 rfl (lv_at hl 0 rfl) ?_
  refine lv_iload_n hx hb dL_law_181 rfl (lv_at hl 3 rfl) ?_
  refine lv_iconst (v := 3) hx hb dL_law_182 (by decide) ?_
  refine lv_iadd hx hb dL_law_183 ?_
  refine va_sld hx hb hX hbl hbA hS hj3 dL_law_184 ?_
  refine lv_aload_n hx hb dL_law_185 rfl (lv_at hl 0 rfl) ?_
  refine lv_iload_n hx hb dL_law_186 rfl (lv_at hl 3 rfl) ?_
  refine lv_iconst (v := 4) hx hb dL_law_187 (by decide) ?_
  refine lv_iadd hx hb dL_law_188 ?_
  refine va_sld hx hb hX hbl hbA hS hj4 dL_law_189 ?_
  refine lv_aload_n hx hb dL_law_190 rfl (lv_at hl 0 rfl) ?_
  refine lv_iload_n hx hb dL_law_191 rfl (lv_at hl 3 rfl) ?_
  refine lv_iconst (v := 5) hx hb dL_law_192 (by decide) ?_
  refine lv_iadd hx hb dL_law_193 ?_
  refine va_sld hx hb hX hbl hbA hS hj5 dL_law_194 ?_
  have hJ := zsw0 hJ
  refine zTi (As := [.int (xs (xi + 1).toNatClampNeg), .int (xs (xi + 2).toNatClampNeg), .int (xs (xi + 3).toNatClampNeg), .int (xs (xi + 4).toNatClampNeg), .int (xs (xi + 5).toNatClampNeg)]) (rest := [.int res.1]) (ci := 9) (q0 := 0) (RV := resM.1) (X := cM D B MV MG) (pl := (cX D A (sI V 1 res.2.1) (sG GI 0 res.2.2) GL (oI (pres 0) (A 40)) (oI (pres 1) (A 50)) (oI (pres 2) (A 60))) ++ (cT (pres 0) (cI0 D A V GI GL) ++ (cT (pres 1) (cI1 D A V GI GL) ++ cT (pres 2) (cI2 D A V GI GL)))) (wn := fun _ => cM D B (sI MV 0 resM.2.1) (sG MG 1 resM.2.2)) ⟨hx, hb, hml, hown, hts⟩ (mX12_feed l D (B 0) (B 1) (B 2) (B 3) (B 4) (B 5) (B 6) (B 7) (B 8) (B 9) (B 10) (B 11) (B 12) H.size (MV 0) (MV 1) (MV 2) (MV 3) (MV 4) (MV 5) (MV 6) (MV 7) (MG 1) (xs (xi + 1).toNatClampNeg) (xs (xi + 2).toNatClampNeg) (xs (xi + 3).toNatClampNeg) (xs (xi + 4).toNatClampNeg) (xs (xi + 5).toNatClampNeg) 1000 resM hfM) (fun _ _ h => h) (cwV 5 hts gL_law_X12_feed rfl rfl rfl (by decide +kernel) ⟨Nat.le_of_ble_eq_true rfl, Nat.le_of_ble_eq_true rfl⟩) hK hJ hS hA [0, 2] [1, 3, 4, 5, 6, 7, 8, 9, 10, 11, 12] [11, 0, 12, 1, 2, 3, 4, 5, 6, 7, 8, 9, 10] rfl (by decide +kernel) rfl (by decide +kernel) (by decide +kernel) (fun _ => rfl) (by decide +kernel) rfl rfl rfl hl.1 rfl (Nat.le_of_ble_eq_true rfl) dL_law_195 ⟨by show _ ≤ 600000; omega, by show _ ≤ 7302250; omega⟩ (fun _ H locs hJ hS => ?_)
  have hJ := zsw0 hJ
  refine lv_icmp_eq (tgt := 833) hx hb dL_law_198 (by decide) (fun _ => ?_) (fun c_ => absurd he c_)
  refine W.widen (k := cells + 20) (n := slots + 1000) (by omega) (by omega) ?_
  exact kk A (sI V 1 res.2.1) (sG GI 0 res.2.2) GL pres (sI MV 0 resM.2.1) (sG MG 1 resM.2.2) H locs rfl hI hJ hS
set_option maxHeartbeats 4000000 in
set_option maxRecDepth 100000 in
theorem lc_end {p : Program} {l : Launch} {e : Env} {s : State} {m : MethodId} {below : List Frame} {meth : Method} {c : Code} {D : zG} {b L : Nat} {xs : Nat → Int32} {xi : Int32} {A B : Nat → Nat} {V : Nat → Int32} {GI : Nat → Nat → Int32} {GL : Nat → Nat → Int64} {pres : Nat → Bool} {MV : Nat → Int32} {MG : Nat → Nat → Int32} {H : Heap} {locs : List Loc} {cells slots : Nat} {Q : State → Prop} {ls : Array Slot} (C0 : lw_At p s m meth c b L xs) (hK : zK D s) (hcs : cells ≤ 500000 ∧ slots ≤ 7000000) (hj1 : vp_in (xi + 1) L) (hj2 : vp_in (xi + 2) L) (hj3 : vp_in (xi + 3) L) (hj4 : vp_in (xi + 4) L) (hj5 : vp_in (xi + 5) L) (hl : lv_has ls 4 [(0, .ref b), (1, .ref (A 0)), (2, .ref (B 0)), (3, .int xi)]) (hI : Inv V GI GL pres MV MG) (hJ : zJ D (fun q : Nat => s.heap.size ≤ q) (wl D A B V GI GL pres MV MG) H) (hS : va_S (fun q : Nat => s.heap.size ≤ q) s.heap H locs) (kk : ∀ (A' : Nat → Nat) (V' : Nat → Int32) (GI' : Nat → Nat → Int32) (GL' : Nat → Nat → Int64) (pres' : Nat → Bool) (MV' : Nat → Int32) (MG' : Nat → Nat → Int32) (H' : Heap) (locs' : List Loc), A' 0 = A 0 → Inv V' GI' GL' pres' MV' MG' → zJ D (fun q : Nat => s.heap.size ≤ q) (wl D A' B V' GI' GL' pres' MV' MG') H' → va_S (fun q : Nat => s.heap.size ≤ q) s.heap H' locs' → W p l e room_1 s m #[Value.ref b] below meth c H' locs' (cells + 20) (slots + 1000) Q (F0 m 833 ls [])) : W p l e room_1 s m #[Value.ref b] below meth c H locs cells slots Q (F0 m 203 ls []) := by
  obtain ⟨hx, hb, hr, hml, hown, hts0, hX, hbl, hlocks, hgv⟩ := C0
  have hts : ∀ w ∈ wsL_law, w.before #[Value.ref b] s = true := fun w h => hts0 w (wsL_law_in w h)
  have hA : ∀ q : Nat, s.heap.size ≤ q → (fun q : Nat => s.heap.size ≤ q) q := fun _ h => h
  have hbA : ¬ (fun q : Nat => s.heap.size ≤ q) b := Nat.not_le.mpr hbl
  obtain ⟨res, resM, hf, hfM, he, hI⟩ := Lw_end (N := 1000) (xs (xi + 1).toNatClampNeg) (Nat.le_refl _) hI
  refine lv_aload_n hx hb dL_law_203 rfl (lv_at hl 1 rfl) ?_
  refine lv_aload_n hx hb dL_law_204 rfl (lv_at hl 0 rfl) ?_
  refine lv_iload_n hx hb dL_law_205 rfl (lv_at hl 3 rfl) ?_
  refine lv_iconst (v := 1) hx hb dL_law_206 (by decide) ?_
  refine lv_iadd hx hb dL_law_207 ?_
  refine va_sld hx hb hX hbl hbA hS hj1 dL_law_208 ?_
  refine zTi (As := [.int (xs (xi + 1).toNatClampNeg)]) (rest := []) (ci := 8) (q0 := 0) (RV := res.1) (X := cX D A V GI GL (oI (pres 0) (A 40)) (oI (pres 1) (A 50)) (oI (pres 2) (A 60))) (pl := cM D B MV MG ++ (cT (pres 0) (cI0 D A V GI GL) ++ (cT (pres 1) (cI1 D A V GI GL) ++ cT (pres 2) (cI2 D A V GI GL)))) (wn := fun _ => cX D A (sI V 1 res.2) GI GL (oI (pres 0) (A 40)) (oI (pres 1) (A 50)) (oI (pres 2) (A 60))) ⟨hx, hb, hml, hown, hts⟩ (mX11_end l D (A 0) (A 1) (A 2) (A 3) (A 4) (A 5) (A 6) (A 7) (A 8) (A 9) (A 10) (A 11) (A 12) (A 13) (A 14) (A 15) H.size (V 0) (V 1) (xs (xi + 1).toNatClampNeg) res hf) (fun _ _ h => h) (cwV 1 hts gL_law_X11_end rfl rfl rfl (by decide +kernel) ⟨Nat.le_of_ble_eq_true rfl, Nat.le_of_ble_eq_true rfl⟩) hK hJ hS hA [0, 1, 2] [3, 4, 5, 6, 7, 8, 9, 10, 11, 12, 13, 14, 15, 16, 17, 18, 19, 20, 21, 22, 23, 24, 25, 26, 27, 28, 29, 30, 31, 32, 33, 34, 35, 36, 37, 38] [36, 37, 38, 0, 1, 2, 3, 4, 5, 6, 7, 8, 9, 10, 11, 12, 13, 14, 15, 16, 17, 18, 19, 20, 21, 22, 23, 24, 25, 26, 27, 28, 29, 30, 31, 32, 33, 34, 35] rfl (by decide +kernel) rfl (by decide +kernel) (by decide +kernel) (fun _ => rfl) (by decide +kernel) rfl rfl rfl hl.1 rfl (Nat.le_of_ble_eq_true rfl) dL_law_209 ⟨by show _ ≤ 600000; omega, by show _ ≤ 7302250; omega⟩ (fun _ H locs hJ hS => ?_)
  refine lv_aload_n hx hb dL_law_212 rfl (lv_at hl 2 rfl) ?_
  refine lv_aload_n hx hb dL_law_213 rfl (lv_at hl 0 rfl) ?_
  refine lv_iload_n hx hb dL_law_214 rfl (lv_at hl 3 rfl) ?_
  refine lv_iconst (v := 1) hx hb dL_law_215 (by decide) ?_
  refine lv_iadd hx hb dL_law_216 ?_
  refine va_sld hx hb hX hbl hbA hS hj1 dL_law_217 ?_
  have hJ := zsw0 hJ
  refine zTi (As := [.int (xs (xi + 1).toNatClampNeg)]) (rest := [.int res.1]) (ci := 9) (q0 := 0) (RV := resM.1) (X := cM D B MV MG) (pl := (cX D A (sI V 1 res.2) GI GL (oI (pres 0) (A 40)) (oI (pres 1) (A 50)) (oI (pres 2) (A 60))) ++ (cT (pres 0) (cI0 D A V GI GL) ++ (cT (pres 1) (cI1 D A V GI GL) ++ cT (pres 2) (cI2 D A V GI GL)))) (wn := fun _ => cM D B (sI MV 0 resM.2) MG) ⟨hx, hb, hml, hown, hts⟩ (mX12_end l D (B 0) (B 1) (B 2) (B 3) (B 4) (B 5) (B 6) (B 7) (B 8) (B 9) (B 10) (B 11) (B 12) H.size (MV 0) (MV 1) (MV 2) (MV 3) (MV 4) (MV 5) (MV 6) (MV 7) (xs (xi + 1).toNatClampNeg) resM hfM) (fun _ _ h => h) (cwV 1 hts gL_law_X12_end rfl rfl rfl (by decide +kernel) ⟨Nat.le_of_ble_eq_true rfl, Nat.le_of_ble_eq_true rfl⟩) hK hJ hS hA [0] [1, 2, 3, 4, 5, 6, 7, 8, 9, 10, 11, 12] [12, 0, 1, 2, 3, 4, 5, 6, 7, 8, 9, 10, 11] rfl (by decide +kernel) rfl (by decide +kernel) (by decide +kernel) (fun _ => rfl) (by decide +kernel) rfl rfl rfl hl.1 rfl (Nat.le_of_ble_eq_true rfl) dL_law_218 ⟨by show _ ≤ 600000; omega, by show _ ≤ 7302250; omega⟩ (fun _ H locs hJ hS => ?_)
  have hJ := zsw0 hJ
  refine lv_icmp_eq (tgt := 833) hx hb dL_law_221 (by decide) (fun _ => ?_) (fun c_ => absurd he c_)
  refine W.widen (k := cells + 20) (n := slots + 1000) (by omega) (by omega) ?_
  exact kk A (sI V 1 res.2) GI GL pres (sI MV 0 resM.2) MG H locs rfl hI hJ hS
set_option maxHeartbeats 4000000 in
set_option maxRecDepth 100000 in
theorem lc_fault {p : Program} {l : Launch} {e : Env} {s : State} {m : MethodId} {below : List Frame} {meth : Method} {c : Code} {D : zG} {b L : Nat} {xs : Nat → Int32} {xi : Int32} {A B : Nat → Nat} {V : Nat → Int32} {GI : Nat → Nat → Int32} {GL : Nat → Nat → Int64} {pres : Nat → Bool} {MV : Nat → Int32} {MG : Nat → Nat → Int32} {H : Heap} {locs : List Loc} {cells slots : Nat} {Q : State → Prop} {ls : Array Slot} (C0 : lw_At p s m meth c b L xs) (hK : zK D s) (hcs : cells ≤ 500000 ∧ slots ≤ 7000000) (hj1 : vp_in (xi + 1) L) (hj2 : vp_in (xi + 2) L) (hj3 : vp_in (xi + 3) L) (hj4 : vp_in (xi + 4) L) (hj5 : vp_in (xi + 5) L) (hl : lv_has ls 4 [(0, .ref b), (1, .ref (A 0)), (2, .ref (B 0)), (3, .int xi)]) (hI : Inv V GI GL pres MV MG) (hJ : zJ D (fun q : Nat => s.heap.size ≤ q) (wl D A B V GI GL pres MV MG) H) (hS : va_S (fun q : Nat => s.heap.size ≤ q) s.heap H locs) (kk : ∀ (A' : Nat → Nat) (V' : Nat → Int32) (GI' : Nat → Nat → Int32) (GL' : Nat → Nat → Int64) (pres' : Nat → Bool) (MV' : Nat → Int32) (MG' : Nat → Nat → Int32) (H' : Heap) (locs' : List Loc), A' 0 = A 0 → Inv V' GI' GL' pres' MV' MG' → zJ D (fun q : Nat => s.heap.size ≤ q) (wl D A' B V' GI' GL' pres' MV' MG') H' → va_S (fun q : Nat => s.heap.size ≤ q) s.heap H' locs' → W p l e room_1 s m #[Value.ref b] below meth c H' locs' (cells + 20) (slots + 1000) Q (F0 m 833 ls [])) : W p l e room_1 s m #[Value.ref b] below meth c H locs cells slots Q (F0 m 252 ls []) := by
  obtain ⟨hx, hb, hr, hml, hown, hts0, hX, hbl, hlocks, hgv⟩ := C0
  have hts : ∀ w ∈ wsL_law, w.before #[Value.ref b] s = true := fun w h => hts0 w (wsL_law_in w h)
  have hA : ∀ q : Nat, s.heap.size ≤ q → (fun q : Nat => s.heap.size ≤ q) q := fun _ h => h
  have hbA : ¬ (fun q : Nat => s.heap.size ≤ q) b := Nat.not_le.mpr hbl
  obtain ⟨res, resM, hf, hfM, he, hI⟩ := Lw_fault (N := 1000) (xs (xi + 1).toNatClampNeg) (Nat.le_refl _) hI
  refine lv_aload_n hx hb dL_law_252 rfl (lv_at hl 1 rfl) ?_
  refine lv_aload_n hx hb dL_law_253 rfl (lv_at hl 0 rfl) ?_
  refine lv_iload_n hx hb dL_law_254 rfl (lv_at hl 3 rfl) ?_
  refine lv_iconst (v := 1) hx hb dL_law_255 (by decide) ?_
  refine lv_iadd hx hb dL_law_256 ?_
  refine va_sld hx hb hX hbl hbA hS hj1 dL_law_257 ?_
  refine zTi (As := [.int (xs (xi + 1).toNatClampNeg)]) (rest := []) (ci := 8) (q0 := 0) (RV := res) (X := cX D A V GI GL (oI (pres 0) (A 40)) (oI (pres 1) (A 50)) (oI (pres 2) (A 60))) (pl := cM D B MV MG ++ (cT (pres 0) (cI0 D A V GI GL) ++ (cT (pres 1) (cI1 D A V GI GL) ++ cT (pres 2) (cI2 D A V GI GL)))) (wn := fun _ => cX D A V GI GL (oI (pres 0) (A 40)) (oI (pres 1) (A 50)) (oI (pres 2) (A 60))) ⟨hx, hb, hml, hown, hts⟩ (mX11_fault l D (A 0) (A 1) (A 2) (A 3) (A 4) (A 5) (A 6) (A 7) (A 8) (A 9) (A 10) (A 11) (A 12) (A 13) (A 14) H.size (V 0) (V 5) (V 6) (xs (xi + 1).toNatClampNeg) res hf) (fun _ _ h => h) (cwV 1 hts gL_law_X11_fault rfl rfl rfl (by decide +kernel) ⟨Nat.le_of_ble_eq_true rfl, Nat.le_of_ble_eq_true rfl⟩) hK hJ hS hA [0, 1, 10] [2, 3, 4, 5, 6, 7, 8, 9, 11, 12, 13, 14, 15, 16, 17, 18, 19, 20, 21, 22, 23, 24, 25, 26, 27, 28, 29, 30, 31, 32, 33, 34, 35, 36, 37, 38] [36, 37, 0, 1, 2, 3, 4, 5, 6, 7, 38, 8, 9, 10, 11, 12, 13, 14, 15, 16, 17, 18, 19, 20, 21, 22, 23, 24, 25, 26, 27, 28, 29, 30, 31, 32, 33, 34, 35] rfl (by decide +kernel) rfl (by decide +kernel) (by decide +kernel) (fun _ => rfl) (by decide +kernel) rfl rfl rfl hl.1 rfl (Nat.le_of_ble_eq_true rfl) dL_law_258 ⟨by show _ ≤ 600000; omega, by show _ ≤ 7302250; omega⟩ (fun _ H locs hJ hS => ?_)
  refine lv_aload_n hx hb dL_law_261 rfl (lv_at hl 2 rfl) ?_
  refine lv_aload_n hx hb dL_law_262 rfl (lv_at hl 0 rfl) ?_
  refine lv_iload_n hx hb dL_law_263 rfl (lv_at hl 3 rfl) ?_
  refine lv_iconst (v := 1) hx hb dL_law_264 (by decide) ?_
  refine lv_iadd hx hb dL_law_265 ?_
  refine va_sld hx hb hX hbl hbA hS hj1 dL_law_266 ?_
  have hJ := zsw0 hJ
  refine zTi (As := [.int (xs (xi + 1).toNatClampNeg)]) (rest := [.int res]) (ci := 9) (q0 := 0) (RV := resM) (X := cM D B MV MG) (pl := (cX D A V GI GL (oI (pres 0) (A 40)) (oI (pres 1) (A 50)) (oI (pres 2) (A 60))) ++ (cT (pres 0) (cI0 D A V GI GL) ++ (cT (pres 1) (cI1 D A V GI GL) ++ cT (pres 2) (cI2 D A V GI GL)))) (wn := fun _ => cM D B MV MG) ⟨hx, hb, hml, hown, hts⟩ (mX12_fault l D (B 0) (B 1) (B 2) (B 3) (B 4) (B 5) (B 6) (B 7) (B 8) (B 9) (B 10) (B 11) (B 12) H.size (MV 0) (MV 1) (MV 2) (MV 3) (MV 4) (MV 5) (MV 6) (MV 7) (xs (xi + 1).toNatClampNeg) resM hfM) (fun _ _ h => h) (cwV 1 hts gL_law_X12_fault rfl rfl rfl (by decide +kernel) ⟨Nat.le_of_ble_eq_true rfl, Nat.le_of_ble_eq_true rfl⟩) hK hJ hS hA [0] [1, 2, 3, 4, 5, 6, 7, 8, 9, 10, 11, 12] [12, 0, 1, 2, 3, 4, 5, 6, 7, 8, 9, 10, 11] rfl (by decide +kernel) rfl (by decide +kernel) (by decide +kernel) (fun _ => rfl) (by decide +kernel) rfl rfl rfl hl.1 rfl (Nat.le_of_ble_eq_true rfl) dL_law_267 ⟨by show _ ≤ 600000; omega, by show _ ≤ 7302250; omega⟩ (fun _ H locs hJ hS => ?_)
  have hJ := zsw0 hJ
  refine lv_icmp_eq (tgt := 833) hx hb dL_law_270 (by decide) (fun _ => ?_) (fun c_ => absurd he c_)
  refine W.widen (k := cells + 20) (n := slots + 1000) (by omega) (by omega) ?_
  exact kk A V GI GL pres MV MG H locs rfl hI hJ hS
set_option maxHeartbeats 4000000 in
set_option maxRecDepth 100000 in
theorem lc_cancel {p : Program} {l : Launch} {e : Env} {s : State} {m : MethodId} {below : List Frame} {meth : Method} {c : Code} {D : zG} {b L : Nat} {xs : Nat → Int32} {xi : Int32} {A B : Nat → Nat} {V : Nat → Int32} {GI : Nat → Nat → Int32} {GL : Nat → Nat → Int64} {pres : Nat → Bool} {MV : Nat → Int32} {MG : Nat → Nat → Int32} {H : Heap} {locs : List Loc} {cells slots : Nat} {Q : State → Prop} {ls : Array Slot} (C0 : lw_At p s m meth c b L xs) (hK : zK D s) (hcs : cells ≤ 500000 ∧ slots ≤ 7000000) (hj1 : vp_in (xi + 1) L) (hj2 : vp_in (xi + 2) L) (hj3 : vp_in (xi + 3) L) (hj4 : vp_in (xi + 4) L) (hj5 : vp_in (xi + 5) L) (hl : lv_has ls 4 [(0, .ref b), (1, .ref (A 0)), (2, .ref (B 0)), (3, .int xi)]) (hI : Inv V GI GL pres MV MG) (hJ : zJ D (fun q : Nat => s.heap.size ≤ q) (wl D A B V GI GL pres MV MG) H) (hS : va_S (fun q : Nat => s.heap.size ≤ q) s.heap H locs) (kk : ∀ (A' : Nat → Nat) (V' : Nat → Int32) (GI' : Nat → Nat → Int32) (GL' : Nat → Nat → Int64) (pres' : Nat → Bool) (MV' : Nat → Int32) (MG' : Nat → Nat → Int32) (H' : Heap) (locs' : List Loc), A' 0 = A 0 → Inv V' GI' GL' pres' MV' MG' → zJ D (fun q : Nat => s.heap.size ≤ q) (wl D A' B V' GI' GL' pres' MV' MG') H' → va_S (fun q : Nat => s.heap.size ≤ q) s.heap H' locs' → W p l e room_1 s m #[Value.ref b] below meth c H' locs' (cells + 20) (slots + 1000) Q (F0 m 833 ls [])) : W p l e room_1 s m #[Value.ref b] below meth c H locs cells slots Q (F0 m 314 ls []) := by
  obtain ⟨hx, hb, hr, hml, hown, hts0, hX, hbl, hlocks, hgv⟩ := C0
  have hts : ∀ w ∈ wsL_law, w.before #[Value.ref b] s = true := fun w h => hts0 w (wsL_law_in w h)
  have hA : ∀ q : Nat, s.heap.size ≤ q → (fun q : Nat => s.heap.size ≤ q) q := fun _ h => h
  have hbA : ¬ (fun q : Nat => s.heap.size ≤ q) b := Nat.not_le.mpr hbl
  obtain ⟨res, resM, hf, hfM, he, hI⟩ := Lw_cancel (N := 1000)  (Nat.le_refl _) hI
  refine lv_aload_n hx hb dL_law_314 rfl (lv_at hl 1 rfl) ?_
  refine zTi (As := []) (rest := []) (ci := 8) (q0 := 0) (RV := res.1) (X := cX D A V GI GL (oI (pres 0) (A 40)) (oI (pres 1) (A 50)) (oI (pres 2) (A 60))) (pl := cM D B MV MG ++ (cT (pres 0) (cI0 D A V GI GL) ++ (cT (pres 1) (cI1 D A V GI GL) ++ cT (pres 2) (cI2 D A V GI GL)))) (wn := fun _ => cX D A (sI (sI V 0 res.2.1) 3 res.2.2.1) GI (sL GL 1 res.2.2.2) (oI (pres 0) (A 40)) (oI (pres 1) (A 50)) (oI (pres 2) (A 60))) ⟨hx, hb, hml, hown, hts⟩ (mX11_cancel l D (A 0) (A 1) (A 2) (A 3) (A 4) (A 5) (A 6) (A 7) (A 8) (A 9) (A 10) (A 11) (A 12) (A 13) (A 14) (A 16) (A 17) H.size (V 0) (V 2) (GL 0) (V 3) (GL 1) res hf) (fun _ _ h => h) (cwV 0 hts gL_law_X11_cancel rfl rfl rfl (by decide +kernel) ⟨Nat.le_of_ble_eq_true rfl, Nat.le_of_ble_eq_true rfl⟩) hK hJ hS hA [0, 1, 4, 5, 6, 7] [2, 3, 8, 9, 10, 11, 12, 13, 14, 15, 16, 17, 18, 19, 20, 21, 22, 23, 24, 25, 26, 27, 28, 29, 30, 31, 32, 33, 34, 35, 36, 37, 38] [33, 34, 0, 1, 35, 36, 37, 38, 2, 3, 4, 5, 6, 7, 8, 9, 10, 11, 12, 13, 14, 15, 16, 17, 18, 19, 20, 21, 22, 23, 24, 25, 26, 27, 28, 29, 30, 31, 32] rfl (by decide +kernel) rfl (by decide +kernel) (by decide +kernel) (fun _ => rfl) (by decide +kernel) rfl rfl rfl hl.1 rfl (Nat.le_of_ble_eq_true rfl) dL_law_315 ⟨by show _ ≤ 600000; omega, by show _ ≤ 7302250; omega⟩ (fun _ H locs hJ hS => ?_)
  refine lv_aload_n hx hb dL_law_318 rfl (lv_at hl 2 rfl) ?_
  have hJ := zsw0 hJ
  refine zTi (As := []) (rest := [.int res.1]) (ci := 9) (q0 := 0) (RV := resM.1) (X := cM D B MV MG) (pl := (cX D A (sI (sI V 0 res.2.1) 3 res.2.2.1) GI (sL GL 1 res.2.2.2) (oI (pres 0) (A 40)) (oI (pres 1) (A 50)) (oI (pres 2) (A 60))) ++ (cT (pres 0) (cI0 D A V GI GL) ++ (cT (pres 1) (cI1 D A V GI GL) ++ cT (pres 2) (cI2 D A V GI GL)))) (wn := fun _ => cM D B MV (sG MG 0 resM.2)) ⟨hx, hb, hml, hown, hts⟩ (mX12_cancel l D (B 0) (B 1) (B 2) (B 3) (B 4) (B 5) (B 6) (B 7) (B 8) (B 9) (B 10) (B 11) (B 12) H.size (MV 0) (MV 1) (MV 2) (MV 3) (MV 4) (MV 5) (MV 6) (MV 7) (MG 0) resM hfM) (fun _ _ h => h) (cwV 0 hts gL_law_X12_cancel rfl rfl rfl (by decide +kernel) ⟨Nat.le_of_ble_eq_true rfl, Nat.le_of_ble_eq_true rfl⟩) hK hJ hS hA [0, 1] [2, 3, 4, 5, 6, 7, 8, 9, 10, 11, 12] [11, 12, 0, 1, 2, 3, 4, 5, 6, 7, 8, 9, 10] rfl (by decide +kernel) rfl (by decide +kernel) (by decide +kernel) (fun _ => rfl) (by decide +kernel) rfl rfl rfl hl.1 rfl (Nat.le_of_ble_eq_true rfl) dL_law_319 ⟨by show _ ≤ 600000; omega, by show _ ≤ 7302250; omega⟩ (fun _ H locs hJ hS => ?_)
  have hJ := zsw0 hJ
  refine lv_icmp_eq (tgt := 833) hx hb dL_law_322 (by decide) (fun _ => ?_) (fun c_ => absurd he c_)
  refine W.widen (k := cells + 20) (n := slots + 1000) (by omega) (by omega) ?_
  exact kk A (sI (sI V 0 res.2.1) 3 res.2.2.1) GI (sL GL 1 res.2.2.2) pres MV (sG MG 0 resM.2) H locs rfl hI hJ hS
