theorem gi2 {α : Type} {a n : Nat} {X : Option α} (h : a < n) (hn : n ≤ 2147483648) : (if nI a < 0 ∨ n ≤ a then none else X) = X := by
  rw [if_neg]
  intro q
  rcases q with q | q
  · exact nI_pos (by omega) q
  · omega
theorem e12_from0 {N : Nat} {f : Nat → Int32} : fX12_from N f 0 = some (nI 0, f) := by
  unfold fX12_from fX12_from_8; rw [if_pos rfl, if_pos rfl]; rfl
theorem e12_from1 {N : Nat} {f f' : Nat → Int32} {y : Int32} (hy : ¬ y = 0) (h : fX12_laysComing N f = some f') : fX12_from N f y = some (nI 443, f') := by
  unfold fX12_from fX12_from_8; rw [if_neg hy, h, Option.bind_some, if_neg hy]; rfl
theorem nI_m1 {n : Nat} (h : n < 2147483648) : ¬ nI n = -1 := fun z => by
  have : (nI n).toInt = (-1 : Int32).toInt := by rw [z]
  rw [nI_toInt h, show (-1 : Int32).toInt = -1 by decide] at this
  omega
/-- promise 12, for either list -/
theorem op_word {N b m P : Nat} {f f' gs : Nat → Int32} {g : Nat → Int64} {d q : Nat → Nat} (x y z : Int32) (hN : 1000 ≤ N) (hfrom : fX12_from N f y = some (nI b, f')) (hD : Dic m d) (hR : Ris g d m) (hA : DA f' b d m) (hb : b + 1 + 8 * m ≤ 5228) (hq : PT q P) (hS : SA gs q P) (hP : PA f' 430 q P) : ∃ r, fX11_word_0 N (nI m) g (nI P) gs x z = some r ∧ fX12_word N f x y z = some (r, f') := by
  have h40 := hD.1
  unfold fX11_word_0 fX12_word fX11_listOf_0
  rw [hfrom, Option.bind_some, Option.bind_some]
  dsimp only
  rw [gi (by omega) (by decide), nI_clamp (by omega), hA.1]
  rcases isIn_m1 (x := x) (m := m) (by omega) with ⟨h1, h2⟩ | ⟨j, hj, rfl, h1⟩
  · rw [hasN_out h2, h1]; exact ⟨-1, rfl, rfl⟩
  · have hw := hD.2.2 j hj
    have hl7 := hw.2.2.1
    have hx := hA.2 j hj
    rw [e7_hasNumber (by omega) (by omega), if_pos hj, h1, Option.bind_some, Option.bind_some, if_neg (by decide), if_neg (by decide), e7_at hR (by omega) (by omega) (by omega), if_pos hj, Option.bind_some, e12_wordAt, Option.bind_some]
    by_cases z0 : z = 0
    · rw [if_pos z0, if_pos z0, gi (by omega) (by decide), nI_clamp (by omega), hx.1, e8_length (by omega) hw.1]
      exact ⟨_, rfl, rfl⟩
    · rw [if_neg z0, if_neg z0]
      by_cases z10 : z = 10
      · rw [if_pos z10, if_pos z10, show (430 : Int32) = nI 430 from rfl, e12_meets hN (by omega) hq hP hx (by omega) hl7, e5_isMetBy hN hw hq hS, Option.bind_some, Option.bind_some]
        cases mt q P (d j) <;> exact ⟨_, rfl, rfl⟩
      · rw [if_neg z10, if_neg z10, gi (by omega) (by decide), nI_clamp (by omega), hx.1]
        by_cases hz : z < 0
        · have hz1 : ¬ (0 : Int32) ≤ z := fun q => by rw [fa_lt] at hz; rw [fa_le] at q; omega
          have hz2 : z < 1 := by rw [fa_lt] at hz ⊢; rw [show (0 : Int32).toInt = 0 by decide] at hz; rw [show (1 : Int32).toInt = 1 by decide]; omega
          rw [if_neg hz1, e12_isIn_neg hz2]
          exact ⟨-1, rfl, rfl⟩
        · obtain ⟨k, hk, rfl⟩ := nI_of hz
          have k1 : 1 ≤ k := Classical.byContradiction fun q => z0 (by rw [show k = 0 by omega]; rfl)
          have e1 : nI k - 1 = nI (k - 1) := pk_sub (b := 1) k1
          rw [if_pos (nI_pos' hk), e1, e8_signAt hw.1 (by omega), Option.bind_some, show fX12_isIn (nI k) 1 (nI (ln (d j))) = some (if 1 ≤ k ∧ k ≤ ln (d j) then 1 else 0) from e12_isIn (lo := 1) hk (by omega) (by omega), Option.bind_some]
          by_cases hkl : k ≤ ln (d j)
          · have hd0 : ¬ dg (d j) (k - 1) = 0 := ln_no (by omega)
            rw [if_neg hd0, if_pos (show 1 ≤ k ∧ k ≤ ln (d j) from ⟨k1, hkl⟩), if_neg (by decide), nI_add, gi (by omega) (by decide), nI_clamp (by omega), show b + 1 + 8 * j + k = b + 1 + 8 * j + 1 + (k - 1) by omega, hx.2 (k - 1) (by omega)]
            exact ⟨_, rfl, rfl⟩
          · rw [if_pos (hw.2.2.2.2 (k - 1) (by omega)), if_neg (show ¬ (1 ≤ k ∧ k ≤ ln (d j)) from fun q => hkl q.2), if_pos rfl]
            exact ⟨-1, rfl, rfl⟩
theorem word_1 (N : Nat) (M : Int32) (g : Nat → Int64) (P : Int32) (gs : Nat → Int32) (x z : Int32) : fX11_word_1 N M g P gs x z = fX11_word_0 N M g P gs x z := rfl
/-- promise 13, for either list -/
theorem op_answer {N b m P : Nat} {f f' gs : Nat → Int32} {g : Nat → Int64} {d q : Nat → Nat} (k y : Int32) (hN : 1000 ≤ N) (hfrom : fX12_from N f y = some (nI b, f')) (hD : Dic m d) (hR : Ris g d m) (hA : DA f' b d m) (hb : b + 1 + 8 * m ≤ 5228) (hq : PT q P) (hS : SA gs q P) (hP : PA f' 430 q P) : ∃ r, fX11_answer_0 N (nI m) g (nI P) gs k = some r ∧ fX12_answer N f k y = some (r, f') := by
  have h40 := hD.1
  unfold fX11_answer_0 fX12_answer fX11_listOf_0
  have e := e12_answer_l (k := k) (y := y) hN hD hA hb hq hP N 0 0 (by omega) (by omega)
  rw [hfrom, Option.bind_some, Option.bind_some, e11_answersOf hN hR hD (by omega) (by omega) hq hS, Option.bind_some, e0_numberOf k (by omega), Option.bind_some, bs_srch h40]
  exact ⟨_, rfl, e⟩
theorem answer_1 (N : Nat) (M : Int32) (g : Nat → Int64) (P : Int32) (gs : Nat → Int32) (k : Int32) : fX11_answer_1 N M g P gs k = fX11_answer_0 N M g P gs k := rfl
/-- promise 8 -/
theorem op_cancel {m e : Nat} {f : Nat → Int32} {g gc : Nat → Int64} {d : Nat → Nat} {vc : Int32} (hD : Dic m d) (hR : Ris g d m) (he : f 321 = nI e) : ∃ g', fX11_cancel (nI e) (nI m) g vc gc = some (nI e, 0, nI m, g') ∧ Ris g' d m ∧ fX12_cancel f = some (nI e, upd f 321 0) := by
  have h40 := hD.1
  unfold fX11_cancel fX9_emptyBatch fX12_cancel
  obtain ⟨g', a1, a2⟩ := e7_copy (n0 := 40) (n1 := 40) (v0 := vc) (g0 := gc) hR (by omega) (by omega) (by omega)
  rw [a1, Option.bind_some, Option.bind_some, show (321 : Int32) = nI 321 from rfl, gi (by omega) (by decide), gi (by omega) (by decide), nI_clamp (by omega), he]
  exact ⟨g', rfl, a2, rfl⟩
/-- promise 22 -/
theorem op_instead {N m P : Nat} {f gs gt : Nat → Int32} {g : Nat → Int64} {d q : Nat → Nat} {vt : Int32} (x y : Int32) (hN : 1000 ≤ N) (hD : Dic m d) (hR : Ris g d m) (hA : DA f 0 d m) (hq : PT q P) (hS : SA gs q P) (hP : PA f 430 q P) : ∃ r vt' gt', fX11_instead N (nI m) g (nI P) gs vt gt x y = some (r, vt', gt') ∧ fX12_instead N f x y = some (r, f) := by
  have h40 := hD.1
  have hP12 := hq.2.1
  unfold fX11_instead fX12_instead fX5_hasPlace
  rw [show (430 : Int32) = nI 430 from rfl, gi (by omega) (by decide), nI_clamp (by omega), hP.1]
  rcases isIn_m1 (x := x) (m := P) (by omega) with ⟨h1, h2⟩ | ⟨j, hj, rfl, h1⟩
  · rw [h1, Option.bind_some, if_pos rfl]
    by_cases h0 : x < 0
    · rw [if_pos h0]; exact ⟨-1, _, _, rfl, rfl⟩
    · rw [if_neg h0, if_pos (h2.resolve_left h0)]; exact ⟨-1, _, _, rfl, rfl⟩
  · rw [h1, Option.bind_some, if_neg (show ¬ (1 : Int32) = 0 by decide), if_neg (nI_pos (by omega)), if_neg (nI_ge hj (by omega)), Option.bind_some, if_neg (show ¬ (1 : Int32) = 0 by decide)]
    -- the tried pattern
    have hcopy : fX5_copy vt gt (nI P) gs = some (nI P, va_cpy gs gt 0 0 P) := by
      unfold fX5_copy
      rw [nI_clamp (by omega), sb_cl0, if_neg]
      intro z
      rcases z with z | z | z | z | z
      · exact absurd z (by decide)
      · exact absurd z (by decide)
      · exact nI_pos (by omega) z
      · omega
      · omega
    have hput : fX5_put (nI P) (va_cpy gs gt 0 0 P) (nI j) y = some (upd (va_cpy gs gt 0 0 P) j y) := by
      unfold fX5_put fX5_hasPlace
      rw [if_neg (nI_pos (by omega)), if_neg (nI_ge hj (by omega)), Option.bind_some, if_neg (by decide), gi (by omega) (by decide), nI_clamp (by omega)]
    have main : ∀ v : Nat, y = nI v → (v = 42 ∨ v = 63 ∨ (97 ≤ v ∧ v ≤ 122)) → ∃ r, (Option.bind (fX11_answersOf N 40 (nI m) g (nI P) (upd (va_cpy gs gt 0 0 P) j y)) fun r9 => Option.bind (fJ13_bitCount_95d88 r9) fun r10 => some (r10, nI P, upd (va_cpy gs gt 0 0 P) j y)) = some (r, nI P, upd (va_cpy gs gt 0 0 P) j y) ∧ fX12_instead_39 N (nI j) y f = some (r, f) := by
      intro v hv hvs
      have hq' : PT (fun i => if i = j then v else q i) P := ⟨hq.1, hP12, fun i hi => by
        dsimp only
        split
        · exact hvs
        · exact hq.2.2 i hi⟩
      have hS' : SA (upd (va_cpy gs gt 0 0 P) j y) (fun i => if i = j then v else q i) P := fun i hi => by
        dsimp only
        by_cases hij : i = j
        · subst hij; rw [pk_us, if_pos rfl, hv]
        · rw [pk_un hij, if_neg hij, sb_cpy0 hi]; exact hS i hi
      have hO : Out f (upd f (431 + j) y) (431 + j) 1 := Out.upd
      have hP' : PA (upd f (431 + j) y) 430 (fun i => if i = j then v else q i) P := by
        refine ⟨by rw [pk_un (by omega)]; exact hP.1, fun i hi => ?_⟩
        dsimp only
        by_cases hij : i = j
        · subst hij; rw [show 430 + 1 + i = 431 + i by omega, pk_us, if_pos rfl, hv]
        · rw [pk_un (by omega), if_neg hij]; exact hP.2 i hi
      have hA' : DA (upd f (431 + j) y) 0 d m := hO.DA hD.2.2 (Or.inl (by omega)) hA
      unfold fX12_instead_39
      have e1 : (431 : Int32) + nI j = nI (431 + j) := nI_add 431 j
      rw [e11_answersOf hN hR hD (by omega) (by omega) hq' hS', Option.bind_some, e_bitCount (bs_lt40 h40), Option.bind_some, bs_count h40, e1, gi (by omega) (by decide), gi (by omega) (by decide), nI_clamp (by omega), show fX12_answers N (upd f (431 + j) y) 0 430 = some (nI (fb_ct (fun w => mt (fun i => if i = j then v else q i) P (d w)) m)) from e12_answers (b := 0) (p := 430) hN hD hA' (by omega) (by omega) hq' hP', Option.bind_some, gi2 (by omega) (by decide), fa_upd_twice, fa_upd_same rfl]
      exact ⟨_, rfl, rfl⟩
    rw [hcopy, Option.bind_some]
    dsimp only
    rw [hput, Option.bind_some]
    rcases letter_or y with ⟨h3, h4, h5⟩ | ⟨c, c1, c2, hy, h3, h4, h5⟩
    · rw [h4, h5, Option.bind_some, Option.bind_some, if_pos rfl]
      by_cases h63 : y = 63
      · rw [if_pos h63, if_pos h63, if_neg (by decide)]
        obtain ⟨r, r1, r2⟩ := main 63 h63 (by omega)
        exact ⟨r, _, _, r1, r2⟩
      · rw [if_neg h63, if_neg h63]
        by_cases h42 : y = 42
        · rw [if_pos h42, if_pos h42, if_neg (by decide)]
          obtain ⟨r, r1, r2⟩ := main 42 h42 (by omega)
          exact ⟨r, _, _, r1, r2⟩
        · rw [if_neg h42, if_neg h42, if_pos rfl]
          exact ⟨-1, _, _, rfl, rfl⟩
    · rw [h4, h5, Option.bind_some, Option.bind_some, if_neg (by decide), if_neg (by decide)]
      have hsc : sg c = c + 95 := by unfold sg; rw [if_neg (by omega), if_neg (by omega)]
      obtain ⟨r, r1, r2⟩ := main (sg c) hy (by omega)
      exact ⟨r, _, _, r1, r2⟩
