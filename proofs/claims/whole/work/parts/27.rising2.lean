/-- Rising.add: full, or there already -/
theorem e7_add_no {N n m x : Nat} {g : Nat → Int64} {d : Nat → Nat} (hN : 10 ≤ N) (hR : Ris g d m) (hI : Inc d m) (hS : Sma d m) (hx : x < 4611686018427387904) (hm : m ≤ n) (hn : n ≤ 511) (h : n ≤ m ∨ ∃ i, i < m ∧ d i = x) : fX7_add N n (nI m) g (lN x) = some (0, nI m, g) := by
  unfold fX7_add
  rw [e7_below hN hR hI hS hx hm hn, Option.bind_some]
  by_cases hf : n ≤ m
  · rw [if_pos (show Int32.ofNat n ≤ nI m from nI_le hf (by omega))]
  · rw [if_neg (show ¬ Int32.ofNat n ≤ nI m from nI_ge (by omega) (by omega)), e7_isAt hR hS hx hm hn (bl_le d m x), Option.bind_some]
    have ht := (bl_there hI).mp (h.resolve_left hf)
    rw [if_pos ht, if_neg (by decide)]
theorem va_cpy_out {α : Type} {f g : Nat → α} {sp dp n j : Nat} (h : j < dp ∨ dp + n ≤ j) : va_cpy f g sp dp n j = g j := pk_cpy_out h
theorem e7_add_yes {N n m x : Nat} {g : Nat → Int64} {d : Nat → Nat} (hN : 10 ≤ N) (hR : Ris g d m) (hI : Inc d m) (hS : Sma d m) (hx : x < 4611686018427387904) (hm : m < n) (hn : n ≤ 511) (h : ¬ ∃ i, i < m ∧ d i = x) : ∃ g', fX7_add N n (nI m) g (lN x) = some (1, nI (m + 1), g') ∧ Ris g' (insF d (bl d m x) x) (m + 1) := by
  have hb := bl_le d m x
  unfold fX7_add
  rw [e7_below hN hR hI hS hx (by omega) hn, Option.bind_some, if_neg (show ¬ Int32.ofNat n ≤ nI m from nI_ge (by omega) (by omega)), e7_isAt hR hS hx (by omega) hn hb, Option.bind_some, if_neg (fun q => h ((bl_there hI).mpr q)), if_pos rfl, nI_1, nI_1, pk_sub hb, nI_clamp (by omega), nI_clamp (by omega), nI_clamp (by omega)]
  rw [if_neg (by
    intro q
    rcases q with q | q | q | q | q
    · exact nI_pos (by omega) q
    · exact nI_pos (by omega) q
    · exact nI_pos (by omega) q
    · omega
    · omega)]
  rw [if_neg (by
    intro q
    rcases q with q | q
    · exact nI_pos (by omega) q
    · omega)]
  refine ⟨_, rfl, fun i hi => ?_⟩
  unfold insF
  by_cases h1 : i < bl d m x
  · rw [if_pos h1, pk_uLn (by omega), pk_cpy_out (Or.inl (by omega))]; exact hR i (by omega)
  · rw [if_neg h1]
    by_cases h2 : i = bl d m x
    · rw [if_pos h2, h2, pk_uLs]
    · rw [if_neg h2, pk_uLn h2, pk_cpy_in (by omega) (by omega), hR _ (by omega)]; congr 2; omega
theorem e7_drop_no {N n m x : Nat} {g : Nat → Int64} {d : Nat → Nat} (hN : 10 ≤ N) (hR : Ris g d m) (hI : Inc d m) (hS : Sma d m) (hx : x < 4611686018427387904) (hm : m ≤ n) (hn : n ≤ 511) (h : ¬ ∃ i, i < m ∧ d i = x) : fX7_drop N n (nI m) g (lN x) = some (0, nI m, g) := by
  unfold fX7_drop
  rw [e7_below hN hR hI hS hx hm hn, Option.bind_some, e7_isAt hR hS hx hm hn (bl_le d m x), Option.bind_some, if_neg (fun q => h ((bl_there hI).mpr q)), if_pos rfl]
theorem e7_drop_yes {N n m x : Nat} {g : Nat → Int64} {d : Nat → Nat} (hN : 10 ≤ N) (hR : Ris g d m) (hI : Inc d m) (hS : Sma d m) (hx : x < 4611686018427387904) (hm : m ≤ n) (hn : n ≤ 511) (h : ∃ i, i < m ∧ d i = x) : ∃ g', fX7_drop N n (nI m) g (lN x) = some (1, nI (m - 1), g') ∧ Ris g' (delF d (bl d m x)) (m - 1) := by
  have ht := (bl_there hI).mp h
  unfold fX7_drop
  have e1 : nI m - 1 = nI (m - 1) := pk_sub (b := 1) (by omega)
  rw [e7_below hN hR hI hS hx hm hn, Option.bind_some, e7_isAt hR hS hx hm hn (bl_le d m x), Option.bind_some, if_pos ht, if_neg (by decide), nI_1, e1, pk_sub (by omega), nI_clamp (by omega), nI_clamp (by omega), nI_clamp (by omega)]
  rw [if_neg (by
    intro q
    rcases q with q | q | q | q | q
    · exact nI_pos (by omega) q
    · exact nI_pos (by omega) q
    · exact nI_pos (by omega) q
    · omega
    · omega)]
  refine ⟨_, rfl, fun i hi => ?_⟩
  unfold delF
  by_cases h1 : i < bl d m x
  · rw [if_pos h1, pk_cpy_out (Or.inl (by omega))]; exact hR i (by omega)
  · rw [if_neg h1, pk_cpy_in (by omega) (by omega), hR _ (by omega)]; congr 2; omega
theorem e7_copy {n0 n1 m : Nat} {v0 : Int32} {g0 g1 : Nat → Int64} {d : Nat → Nat} (hR : Ris g1 d m) (h0 : m ≤ n0) (h1 : m ≤ n1) (hn0 : n0 ≤ 511) : ∃ g', fX7_copy n0 n1 v0 g0 (nI m) g1 = some (nI m, g') ∧ Ris g' d m := by
  unfold fX7_copy
  rw [if_neg (show ¬ Int32.ofNat n0 < nI m from nI_nlt h0 (by omega)), nI_clamp (by omega), show ((0 : Int32)).toNatClampNeg = 0 from rfl]
  rw [if_neg (by
    intro q
    rcases q with q | q | q | q | q
    · exact absurd q (by decide)
    · exact absurd q (by decide)
    · exact nI_pos (by omega) q
    · omega
    · omega)]
  refine ⟨_, rfl, fun i hi => ?_⟩
  rw [pk_cpy_in (by omega) (by omega), show 0 + (i - 0) = i by omega]
  exact hR i hi
