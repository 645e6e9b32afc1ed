/-! ===== rows as numbers of eight digits, each below 32 ===== -/
/-- the sign code at a place of a row, 0 outside -/
def dg (r i : Nat) : Nat := if i < 8 then r / 32 ^ (7 - i) % 32 else 0
def mkd (f : Nat → Nat) : Nat := f 0 * 34359738368 + f 1 * 1073741824 + f 2 * 33554432 + f 3 * 1048576 + f 4 * 32768 + f 5 * 1024 + f 6 * 32 + f 7
theorem lt8 {i : Nat} (h : i < 8) : i = 0 ∨ i = 1 ∨ i = 2 ∨ i = 3 ∨ i = 4 ∨ i = 5 ∨ i = 6 ∨ i = 7 := by omega
theorem dg_lt (r i : Nat) : dg r i < 32 := by
  unfold dg; split <;> omega
theorem dg_out {r i : Nat} (h : 8 ≤ i) : dg r i = 0 := by
  unfold dg; rw [if_neg (by omega)]
theorem dg_mkd {f : Nat → Nat} (hf : ∀ i, i < 8 → f i < 32) {i : Nat} (hi : i < 8) : dg (mkd f) i = f i := by
  have h0 := hf 0 (by omega); have h1 := hf 1 (by omega); have h2 := hf 2 (by omega); have h3 := hf 3 (by omega)
  have h4 := hf 4 (by omega); have h5 := hf 5 (by omega); have h6 := hf 6 (by omega); have h7 := hf 7 (by omega)
  rcases lt8 hi with rfl | rfl | rfl | rfl | rfl | rfl | rfl | rfl <;> simp [dg, mkd] <;> omega
theorem mkd_lt {f : Nat → Nat} (hf : ∀ i, i < 8 → f i < 32) : mkd f < 1099511627776 := by
  have h0 := hf 0 (by omega); have h1 := hf 1 (by omega); have h2 := hf 2 (by omega); have h3 := hf 3 (by omega)
  have h4 := hf 4 (by omega); have h5 := hf 5 (by omega); have h6 := hf 6 (by omega); have h7 := hf 7 (by omega)
  unfold mkd; omega
theorem mkd_dg {r : Nat} (h : r < 1099511627776) : mkd (dg r) = r := by
  simp [dg, mkd]; omega
theorem mkd_cong {f g : Nat → Nat} (h : ∀ i, i < 8 → f i = g i) : mkd f = mkd g := by
  unfold mkd; rw [h 0 (by omega), h 1 (by omega), h 2 (by omega), h 3 (by omega), h 4 (by omega), h 5 (by omega), h 6 (by omega), h 7 (by omega)]
theorem dg_ext {r s : Nat} (hr : r < 1099511627776) (hs : s < 1099511627776) (h : ∀ i, i < 8 → dg r i = dg s i) : r = s := by
  rw [← mkd_dg hr, ← mkd_dg hs]; exact mkd_cong h
theorem dg_lex {r s i : Nat} (hr : r < 1099511627776) (hs : s < 1099511627776) (hi : i < 8) (he : ∀ j, j < i → dg r j = dg s j) (hl : dg r i < dg s i) : r < s := by
  have er := mkd_dg hr; have es := mkd_dg hs
  unfold mkd at er es
  have a0 := dg_lt r 0; have a1 := dg_lt r 1; have a2 := dg_lt r 2; have a3 := dg_lt r 3; have a4 := dg_lt r 4; have a5 := dg_lt r 5; have a6 := dg_lt r 6; have a7 := dg_lt r 7
  have b0 := dg_lt s 0; have b1 := dg_lt s 1; have b2 := dg_lt s 2; have b3 := dg_lt s 3; have b4 := dg_lt s 4; have b5 := dg_lt s 5; have b6 := dg_lt s 6; have b7 := dg_lt s 7
  rcases lt8 hi with rfl | rfl | rfl | rfl | rfl | rfl | rfl | rfl
  · omega
  · have e0 := he 0 (by omega); omega
  · have e0 := he 0 (by omega); have e1 := he 1 (by omega); omega
  · have e0 := he 0 (by omega); have e1 := he 1 (by omega); have e2 := he 2 (by omega); omega
  · have e0 := he 0 (by omega); have e1 := he 1 (by omega); have e2 := he 2 (by omega); have e3 := he 3 (by omega); omega
  · have e0 := he 0 (by omega); have e1 := he 1 (by omega); have e2 := he 2 (by omega); have e3 := he 3 (by omega); have e4 := he 4 (by omega); omega
  · have e0 := he 0 (by omega); have e1 := he 1 (by omega); have e2 := he 2 (by omega); have e3 := he 3 (by omega); have e4 := he 4 (by omega); have e5 := he 5 (by omega); omega
  · have e0 := he 0 (by omega); have e1 := he 1 (by omega); have e2 := he 2 (by omega); have e3 := he 3 (by omega); have e4 := he 4 (by omega); have e5 := he 5 (by omega); have e6 := he 6 (by omega); omega
/-- the first place where two rows differ -/
theorem dg_diff {r s : Nat} (hr : r < 1099511627776) (hs : s < 1099511627776) (h : r ≠ s) : ∃ i, i < 8 ∧ dg r i ≠ dg s i ∧ ∀ j, j < i → dg r j = dg s j := by
  have hex : ∃ i, i < 8 ∧ dg r i ≠ dg s i := Classical.byContradiction fun hn => h (dg_ext hr hs fun i hi => Classical.byContradiction fun hne => hn ⟨i, hi, hne⟩)
  obtain ⟨i, hi, hp, hj⟩ := fb_first (p := fun i => dg r i ≠ dg s i) hex
  exact ⟨i, hi, hp, fun j h => Classical.byContradiction fun hne => hj j h hne⟩
/-! ===== numbers ===== -/
theorem shrL {r k : Nat} (h : r < 2 ^ 62) (hk : k < 64) : lN r >>> (Int32.toInt64 (nI k) &&& 63) = lN (r / 2 ^ k) := by
  refine pf_shr (d := k) ?_ h
  rw [wb_c k hk, wb_tb, wb_sm k hk, BitVec.toNat_ofNat]
  exact Nat.mod_eq_of_lt (Nat.lt_trans hk (by decide))
theorem shlL (r : Nat) {k : Nat} (hk : k < 64) : lN r <<< (Int32.toInt64 (nI k) &&& 63) = lN (r * 2 ^ k) := wb_shl r hk
theorem pw32 (k : Nat) : (2 : Nat) ^ (5 * k) = 32 ^ k := by rw [Nat.pow_mul]
/-- Row.codeAt -/
theorem e8_codeAt {r i : Nat} (h : r < 1099511627776) (hi : i < 2147483648) : fX8_codeAt (lN r) (nI i) = some (nI (dg r i)) := by
  unfold fX8_codeAt
  rw [if_neg (nI_pos hi)]
  by_cases h8 : i < 8
  · rw [if_pos (show nI i < 8 from nI_lt (b := 8) h8 (by decide))]
    have e1 : (7 : Int32) - nI i = nI (7 - i) := pk_sub (a := 7) (by omega)
    have e2 : (5 : Int32) * nI (7 - i) = nI (5 * (7 - i)) := pk_mul 5 (7 - i)
    rw [e1, e2, shrL (by omega) (by omega), lN_i, show (31 : Int32) = nI (2 ^ 5 - 1) from rfl, fa_mask, pw32]
    unfold dg
    rw [if_pos h8]
  · rw [if_neg (show ¬ nI i < 8 from nI_nlt (b := 8) (by omega) hi), dg_out (by omega)]; rfl
theorem e8_codeAt_neg {r : Nat} {x : Int32} (h : x < 0) : fX8_codeAt (lN r) x = some 0 := by
  unfold fX8_codeAt; rw [if_pos h]
