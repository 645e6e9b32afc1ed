/-- a letter or not: both sides -/
theorem letter_or (x : Int32) : (fX11_isLetter x = some 0 ∧ fX12_isLetter x = some 0 ∧ fX5_isSign x = some (if x = 63 then 1 else if x = 42 then 1 else 0)) ∨ ∃ c, 2 ≤ c ∧ c ≤ 27 ∧ x = nI (sg c) ∧ fX11_isLetter x = some 1 ∧ fX12_isLetter x = some 1 ∧ fX5_isSign x = some 1 := by
  unfold fX12_isLetter fX5_isSign fX12_isIn fX11_isLetter
  by_cases h1 : x < 97
  · refine Or.inl ?_
    rw [if_pos h1]
    refine ⟨rfl, rfl, ?_⟩
    rw [Option.bind_some, if_pos rfl]
    split
    · rfl
    · split <;> rfl
  · rw [if_neg h1]
    by_cases h2 : 122 < x
    · refine Or.inl ?_
      rw [if_pos h2]
      refine ⟨rfl, rfl, ?_⟩
      rw [Option.bind_some, if_pos rfl]
      split
      · rfl
      · split <;> rfl
    · refine Or.inr ?_
      rw [if_neg h2]
      have h0 : ¬ x < 0 := fun z => h1 (by rw [fa_lt] at z ⊢; rw [show (0 : Int32).toInt = 0 by decide] at z; rw [show (97 : Int32).toInt = 97 by decide]; omega)
      obtain ⟨k, hk, rfl⟩ := nI_of h0
      have k1 : 97 ≤ k := Classical.byContradiction fun z => h1 (nI_lt (b := 97) (by omega) (by decide))
      have k2 : k ≤ 122 := Classical.byContradiction fun z => h2 (nI_lt (a := 122) (by omega) hk)
      obtain ⟨c, c1, c2, c3⟩ := sg_letter k1 k2
      exact ⟨c, c1, c2, by rw [c3], rfl, rfl, by rw [Option.bind_some, if_neg (by decide)]⟩
/-- the model's placesOf -/
theorem e12_placesOf_l {N x r c : Nat} {f : Nat → Int32} (hx : WA f x r) (hl : ln r ≤ 7) (bx : x + 8 ≤ 5228) (hc : c < 32) : ∀ K i, i ≤ ln r → ln r + 1 ≤ K + i → fX12_placesOf_5 N f (nI x) (nI (sg c)) K (nI (pl r c i)) (nI (i + 1)) = some (nI (pl r c (ln r))) := by
  intro K
  induction K with
  | zero => intro i h1 h2; omega
  | succ K ih =>
    intro i h1 h2
    rw [fX12_placesOf_5, gi (by omega) (by decide), nI_clamp (by omega), hx.1]
    by_cases hi : ln r < i + 1
    · rw [if_pos (nI_lt hi (by omega)), show i = ln r by omega]
    · have e1 : nI (i + 1) - 1 = nI i := nI_pred i
      rw [if_neg (nI_nlt (by omega) (by omega)), nI_add, gi (by omega) (by decide), nI_clamp (by omega), show x + (i + 1) = x + 1 + i by omega, hx.2 i (by omega), e1, shlI1 (by omega), fa_or, nI_1, show (0 : Int32) = nI 0 from rfl, fa_or, Nat.or_zero]
      have ih' := ih (i + 1) (by omega) (by omega)
      rw [pl] at ih'
      have g1 := sg_lt (dg_lt r i); have g2 := sg_lt hc
      by_cases hd : dg r i = c
      · rw [if_pos (by rw [hd])]; rw [if_pos hd] at ih'; exact ih'
      · rw [if_neg (fun z => hd (sg_inj ((nI_eq (by omega) (by omega)).mp z)))]; rw [if_neg hd, Nat.or_zero] at ih'; exact ih'
theorem pl_8 {r c : Nat} (hw : isW r) (hc : 1 ≤ c) : pl r c 8 = pl r c (ln r) := by
  have h7 := hw.2.2.1
  apply Nat.eq_of_testBit_eq
  intro j
  rw [pl_bit, pl_bit]
  by_cases h : j < ln r
  · have : j < 8 := by omega
    simp [h, this]
  · have : ¬ dg r j = c := by rw [hw.2.2.2.2 j (by omega)]; omega
    simp [this]
theorem e12_placesOf {N x r c : Nat} {f : Nat → Int32} (hN : 1000 ≤ N) (hx : WA f x r) (hw : isW r) (bx : x + 8 ≤ 5228) (h1 : 1 ≤ c) (hc : c < 32) : fX12_placesOf N f (nI x) (nI (sg c)) = some (nI (pl r c 8)) := by
  unfold fX12_placesOf
  have h7 := hw.2.2.1
  rw [pl_8 hw h1]
  exact e12_placesOf_l hx h7 bx hc N 0 (by omega) (by omega)
theorem op_places {N m : Nat} {f : Nat → Int32} {g : Nat → Int64} {d : Nat → Nat} (x y : Int32) (hN : 1000 ≤ N) (hD : Dic m d) (hR : Ris g d m) (hA : DA f 0 d m) : ∃ r, fX11_places N (nI m) g x y = some r ∧ fX12_places N f x y = some r := by
  have h40 := hD.1
  unfold fX11_places fX12_places
  rw [g0 (by decide), sb_cl0, hA.1]
  rcases isIn_m1 (x := x) (m := m) (by omega) with ⟨h1, h2⟩ | ⟨j, hj, rfl, h1⟩
  · rw [hasN_out h2, h1]; exact ⟨-1, rfl, rfl⟩
  · rw [e7_hasNumber (by omega) (by omega), if_pos hj, h1, Option.bind_some, Option.bind_some, if_neg (by decide), if_neg (by decide)]
    rcases letter_or y with ⟨h3, h4, -⟩ | ⟨c, c1, c2, rfl, h3, h4, -⟩
    · rw [h3, h4]; exact ⟨-1, rfl, rfl⟩
    · rw [h3, h4, Option.bind_some, Option.bind_some, if_neg (by decide), if_neg (by decide), e7_at hR (by omega) (by omega) (by omega), if_pos hj, Option.bind_some, e8_placesOf (by omega) (hD.2.2 j hj).1 (by omega) (by omega), Option.bind_some, e12_wordAt0, Option.bind_some, e12_placesOf hN (hA.2 j hj) (hD.2.2 j hj) (by omega) (by omega) (by omega), Option.bind_some]
      exact ⟨_, rfl, rfl⟩
/-- tally by a letter -/
theorem e11_withLetter_l {N m c : Nat} {g : Nat → Int64} {d : Nat → Nat} (hN : 1000 ≤ N) (hR : Ris g d m) (hD : Dic m d) (h1 : 1 ≤ c) (hc : c < 32) : ∀ K w, w ≤ m → m + 1 ≤ K + w → fX11_wordsWithLetter_4 N (nI m) g (nI (sg c)) K (nI (fb_ct (fun w => pl (d w) c 8 != 0) w)) (nI w) = some (nI (fb_ct (fun w => pl (d w) c 8 != 0) m)) := by
  have h40 := hD.1
  intro K
  induction K with
  | zero => intro w h1 h2; omega
  | succ K ih =>
    intro w h1 h2
    rw [fX11_wordsWithLetter_4, fX7_size, Option.bind_some]
    by_cases hw : m ≤ w
    · rw [if_pos (nI_le hw (by omega)), show w = m by omega]
    · have hpl : pl (d w) c 8 < 2 ^ 8 := pl_lt _ _ 8
      rw [if_neg (nI_ge (by omega) (by omega)), e7_at hR (by omega) (by omega) (by omega), if_pos (by omega), Option.bind_some, e8_placesOf (by omega) (hD.2.2 w (by omega)).1 (by omega) hc, Option.bind_some, nI_1, nI_1]
      have ih' := ih (w + 1) (by omega) (by omega)
      rw [fb_ct_succ] at ih'
      by_cases hz : pl (d w) c 8 = 0
      · rw [if_pos ((n0 (by omega)).mpr hz)]; rw [if_neg (by simp [hz]), Nat.add_zero] at ih'; exact ih'
      · rw [if_neg (fun z => hz ((n0 (by omega)).mp z))]; rw [if_pos (by simp [hz])] at ih'; exact ih'
theorem e11_ofLength_l {N m k : Nat} {g : Nat → Int64} {d : Nat → Nat} (hN : 1000 ≤ N) (hR : Ris g d m) (hD : Dic m d) (hk : k ≤ 7) : ∀ K w, w ≤ m → m + 1 ≤ K + w → fX11_wordsOfLength_4 N (nI m) g (nI k) K (nI (fb_ct (fun w => ln (d w) == k) w)) (nI w) = some (nI (fb_ct (fun w => ln (d w) == k) m)) := by
  have h40 := hD.1
  intro K
  induction K with
  | zero => intro w h1 h2; omega
  | succ K ih =>
    intro w h1 h2
    rw [fX11_wordsOfLength_4, fX7_size, Option.bind_some]
    by_cases hw : m ≤ w
    · rw [if_pos (nI_le hw (by omega)), show w = m by omega]
    · have hl := ln_le (d w)
      rw [if_neg (nI_ge (by omega) (by omega)), e7_at hR (by omega) (by omega) (by omega), if_pos (by omega), Option.bind_some, e8_length (by omega) (hD.2.2 w (by omega)).1, Option.bind_some, nI_1, nI_1]
      have ih' := ih (w + 1) (by omega) (by omega)
      rw [fb_ct_succ] at ih'
      by_cases hz : ln (d w) = k
      · rw [if_pos (by rw [hz])]; rw [if_pos (by simp [hz])] at ih'; exact ih'
      · rw [if_neg (fun z => hz ((nI_eq (by omega) (by omega)).mp z))]; rw [if_neg (by simp [hz]), Nat.add_zero] at ih'; exact ih'
theorem e12_tally_l {N m : Nat} {f : Nat → Int32} {d : Nat → Nat} {x y : Int32} (hD : Dic m d) (hA : DA f 0 d m) (p : Nat → Bool) (h0 : y = 0 → ∀ w, w < m → (nI (ln (d w)) = x ↔ p w = true)) (h1 : ¬ y = 0 → ∀ w, w < m → ∃ v, fX12_placesOf N f (nI (0 + 1 + 8 * w)) x = some v ∧ (v = 0 ↔ p w = false)) : ∀ K w, w ≤ m → m + 1 ≤ K + w → fX12_tally_31 N f x y K (nI (fb_ct p w)) (nI w) = some (nI (fb_ct p m)) := by
  have h40 := hD.1
  intro K
  induction K with
  | zero => intro w h1 h2; omega
  | succ K ih =>
    intro w hw1 hw2
    rw [fX12_tally_31, g0 (by decide), sb_cl0, hA.1]
    by_cases hw : m ≤ w
    · rw [if_pos (nI_le hw (by omega)), show w = m by omega]
    · rw [if_neg (nI_ge (by omega) (by omega)), e12_wordAt0, Option.bind_some, Option.bind_some, gi (by omega) (by decide), nI_clamp (by omega), (hA.2 w (by omega)).1, nI_1, nI_1, show nI (fb_ct p w) + 0 = nI (fb_ct p w) from nI_add _ 0]
      have ih' := ih (w + 1) (by omega) (by omega)
      rw [fb_ct_succ] at ih'
      by_cases hy : y = 0
      · rw [if_pos hy]
        have h := h0 hy w (by omega)
        cases hp : p w with
        | true => rw [hp] at ih'; rw [if_pos (h.mpr hp)]; exact ih'
        | false => rw [hp] at ih'; rw [if_neg (fun z => by rw [h.mp z] at hp; cases hp)]; exact ih'
      · rw [if_neg hy]
        obtain ⟨v, v1, v2⟩ := h1 hy w (by omega)
        rw [v1, Option.bind_some]
        cases hp : p w with
        | true => rw [hp] at ih'; rw [if_neg (fun z => by rw [v2.mp z] at hp; cases hp)]; exact ih'
        | false => rw [hp] at ih'; rw [if_pos (v2.mpr hp)]; exact ih'
theorem op_tally {N m : Nat} {f : Nat → Int32} {g : Nat → Int64} {d : Nat → Nat} (x y : Int32) (hN : 1000 ≤ N) (hD : Dic m d) (hR : Ris g d m) (hA : DA f 0 d m) : ∃ r, fX11_tally N (nI m) g x y = some r ∧ fX12_tally N f x y = some r := by
  have h40 := hD.1
  unfold fX11_tally fX12_tally
  by_cases hy : y = 0
  · rw [if_pos hy, if_pos hy]
    unfold fX12_isIn
    by_cases h1 : x < 1
    · rw [if_pos h1, if_pos h1]; exact ⟨-1, rfl, rfl⟩
    · rw [if_neg h1, if_neg h1]
      by_cases h2 : 7 < x
      · rw [if_pos h2, if_pos h2]; exact ⟨-1, rfl, rfl⟩
      · rw [if_neg h2, if_neg h2, Option.bind_some, if_neg (by decide)]
        have h0 : ¬ x < 0 := fun z => h1 (by rw [fa_lt] at z ⊢; rw [show (0 : Int32).toInt = 0 by decide] at z; rw [show (1 : Int32).toInt = 1 by decide]; omega)
        obtain ⟨k, hk, rfl⟩ := nI_of h0
        have k2 : k ≤ 7 := Classical.byContradiction fun z => h2 (nI_lt (a := 7) (by omega) hk)
        unfold fX11_wordsOfLength
        have e1 := e11_ofLength_l hN hR hD k2 N 0 (by omega) (by omega)
        have e2 := e12_tally_l (N := N) (y := y) hD hA (fun w => ln (d w) == k) (x := nI k) (fun _ w hw => by
          have := ln_le (d w)
          rw [nI_eq (by omega) (by omega)]; simp) (fun z => absurd hy z) N 0 (by omega) (by omega)
        rw [show (0 : Int32) = nI (fb_ct (fun w => ln (d w) == k) 0) from rfl] at *
        rw [show nI (fb_ct (fun w => ln (d w) == k) 0) = nI 0 from rfl] at *
        rw [e1, e2]
        exact ⟨_, rfl, rfl⟩
  · rw [if_neg hy, if_neg hy]
    rcases letter_or x with ⟨h3, h4, -⟩ | ⟨c, c1, c2, rfl, h3, h4, -⟩
    · rw [h3, h4]; exact ⟨-1, rfl, rfl⟩
    · rw [h3, h4, Option.bind_some, Option.bind_some, if_neg (by decide), if_neg (by decide)]
      unfold fX11_wordsWithLetter
      have e1 := e11_withLetter_l hN hR hD (show 1 ≤ c by omega) (show c < 32 by omega) N 0 (by omega) (by omega)
      have e2 := e12_tally_l (N := N) (y := y) hD hA (fun w => pl (d w) c 8 != 0) (x := nI (sg c)) (fun z => absurd z hy) (fun _ w hw => by
        have hpl : pl (d w) c 8 < 2 ^ 8 := pl_lt _ _ 8
        refine ⟨_, e12_placesOf hN (hA.2 w hw) (hD.2.2 w hw) (by omega) (by omega) (by omega), ?_⟩
        rw [n0 (by omega)]; simp) N 0 (by omega) (by omega)
      have z1 : fX11_wordsWithLetter_4 N (nI m) g (nI (sg c)) N 0 0 = some (nI (fb_ct (fun w => pl (d w) c 8 != 0) m)) := e1
      have z2 : fX12_tally_31 N f (nI (sg c)) y N 0 0 = some (nI (fb_ct (fun w => pl (d w) c 8 != 0) m)) := e2
      rw [z1, z2]
      exact ⟨_, rfl, rfl⟩
