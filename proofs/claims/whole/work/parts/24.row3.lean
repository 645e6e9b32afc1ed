theorem De_dg {r e : Nat} (h : e < 8) : De r e = dg r (7 - e) := by rw [dg_De (by omega)]; congr 1; omega
theorem De_hi {r e : Nat} (hr : r < 1099511627776) (h : 8 ≤ e) : De r e = 0 := De_big (m := 8) hr h
/-- Row.turned -/
theorem e8_turned {N r k : Nat} (hN : 9 ≤ N) (hw : isW r) (hk : k ≤ ln r) : fX8_turned N (lN r) (nI k) = some (lN (tr r k)) := by
  obtain ⟨hr, h1, h7, hlet, hz⟩ := hw
  unfold fX8_turned
  have e1 : (5 : Int32) * nI k = nI (5 * k) := pk_mul 5 k
  have e2 : nI (ln r) - nI k = nI (ln r - k) := pk_sub hk
  have e3 : nI (ln r - k) + 1 = nI (ln r - k + 1) := nI_1 _
  have e4 : (5 : Int32) * nI (ln r - k + 1) = nI (5 * (ln r - k + 1)) := pk_mul 5 _
  rw [e8_length hN hr, Option.bind_some, e1, e2, shlL r (by omega), pw32, show (1099511627775 : Int64) = lN (2 ^ 40 - 1) from rfl, fb_maskL, show (2 : Nat) ^ 40 = 32 ^ 8 by decide]
  have hLlt : r * 32 ^ k % 32 ^ 8 < 1099511627776 := Nat.mod_lt _ (by decide)
  have hL : ∀ i, i < 8 → dg (r * 32 ^ k % 32 ^ 8) i = if i + k < 8 then dg r (i + k) else 0 := fun i hi => by
    rw [dg_De hi, De_mod, if_pos (by omega), De_mul]
    by_cases h : i + k < 8
    · rw [if_pos (by omega), if_pos h, dg_De h]; congr 1; omega
    · rw [if_neg (by omega), if_neg h]
  generalize r * 32 ^ k % 32 ^ 8 = L at hLlt hL ⊢
  have hLz : dg L (ln r - k) = 0 := by
    rw [hL _ (by omega), if_pos (by omega)]; exact hz _ (by omega)
  rw [show (36 : Int32) = nI (sg 1) from rfl, e8_put hLlt (Nat.le_refl 1) (by decide) (by omega) hLz, Option.bind_some, e8_head hr (by omega), Option.bind_some, e3, e4]
  have hh := hd_lt r k
  have hs := setd_lt (r := L) (i := ln r - k) (c := 1) (by decide)
  rw [shrL (by omega) (by omega), pw32]
  have hq : hd r k / 32 ^ (ln r - k + 1) < 1099511627776 := Nat.lt_of_le_of_lt (Nat.div_le_self _ _) hh
  rw [wb_or (by omega) (by omega)]
  congr 2
  refine row_is (or_lt40 hs hq) (fun i _ => td_lt r k i) (fun e he => ?_)
  rw [De_or, De_div, De_dg he, dg_setd (by decide) (by omega), hL _ (by omega)]
  unfold td
  by_cases c1 : 7 - e < ln r - k
  · rw [if_neg (by omega), if_pos (by omega), if_pos c1, De_hi hh (by omega), Nat.or_zero]; congr 1; omega
  · by_cases c2 : 7 - e = ln r - k
    · rw [if_pos c2, if_neg c1, if_pos c2, De_hi hh (by omega)]; rfl
    · rw [if_neg c2, if_neg c1, if_neg c2, De_dg (by omega), dg_hd (by omega)]
      have hzz : (if 7 - e + k < 8 then dg r (7 - e + k) else 0) = 0 := by
        split
        · exact hz _ (by omega)
        · rfl
      rw [hzz, Nat.zero_or]
      by_cases c3 : 7 - e ≤ ln r
      · rw [if_pos (by omega), if_pos c3]; congr 1; omega
      · rw [if_neg (by omega), if_neg c3]
/-- Row.above -/
theorem e8_above {r s : Nat} (h1 : 1 ≤ s) (hs : s < 2147483648) : fX8_above (lN r) (nI s) = some (lN (if s ≤ 8 then r + 32 ^ (8 - s) else r)) := by
  unfold fX8_above
  have e0 : nI s - 1 = nI (s - 1) := pk_sub (b := 1) h1
  rw [e0, e8_isPlace (by omega), Option.bind_some]
  by_cases h : s ≤ 8
  · rw [if_pos (show s - 1 < 8 by omega), if_neg (by decide), if_pos h]
    unfold fX8_shiftOf
    have e1 : (7 : Int32) - nI (s - 1) = nI (8 - s) := (pk_sub (a := 7) (by omega)).trans (by rw [show 7 - (s - 1) = 8 - s by omega])
    have e2 : (5 : Int32) * nI (8 - s) = nI (5 * (8 - s)) := pk_mul 5 _
    rw [Option.bind_some, e1, e2, show (1 : Int64) = lN 1 from rfl, shlL 1 (by omega), pw32, lN_add, Nat.one_mul]
  · rw [if_neg (show ¬ s - 1 < 8 by omega), if_pos rfl, if_neg h]
/-- the places of a code, as bits -/
def pl (r c : Nat) : Nat → Nat
  | 0 => 0
  | n + 1 => pl r c n ||| (if dg r n = c then 2 ^ n else 0)
theorem pl_lt (r c : Nat) : ∀ n, pl r c n < 2 ^ n
  | 0 => by simp [pl]
  | n + 1 => by
    rw [pl]
    refine Nat.or_lt_two_pow (Nat.lt_trans (pl_lt r c n) (Nat.pow_lt_pow_right (by decide) (by omega))) ?_
    split
    · exact Nat.pow_lt_pow_right (by decide) (by omega)
    · exact Nat.pow_pos (by decide)
theorem pl_bit (r c : Nat) : ∀ n j, (pl r c n).testBit j = (decide (j < n) && decide (dg r j = c))
  | 0, j => by simp [pl]
  | n + 1, j => by
    rw [pl, Nat.testBit_or, pl_bit r c n j]
    by_cases h : dg r n = c
    · rw [if_pos h, Nat.testBit_two_pow]
      by_cases hj : j = n
      · subst hj; simp [h]
      · have : n ≠ j := fun q => hj q.symm
        have e : (j < n + 1) ↔ (j < n) := by omega
        simp [this, e]
    · rw [if_neg h, Nat.zero_testBit]
      by_cases hj : j = n
      · subst hj; simp [h]
      · have e : (j < n + 1) ↔ (j < n) := by omega
        simp [e]
theorem shlI1 {k : Nat} (hk : k < 31) : (1 : Int32) <<< (nI k &&& 31) = nI (2 ^ k) := by
  have h := pk_shlN (n := 1) (nI k &&& 31) k (s_l k (by omega)) (by rw [Nat.one_mul]; exact Nat.pow_lt_pow_right (by decide) (by omega))
  rw [Nat.one_mul] at h
  exact h
theorem e8_placesOf_l (N : Nat) {r c : Nat} (x : Int32) (hr : r < 1099511627776) (hc : c < 32) : ∀ K i, i ≤ 8 → 9 ≤ K + i → fX8_placesOf_11 N (lN r) x K (nI c) (nI (pl r c i)) (nI i) = some (nI (pl r c 8)) := by
  intro K
  induction K with
  | zero => intro i h1 h2; omega
  | succ K ih =>
    intro i h1 h2
    rw [fX8_placesOf_11]
    by_cases h8 : 8 ≤ i
    · rw [if_pos (show (8 : Int32) ≤ nI i from nI_le (a := 8) h8 (by omega)), show i = 8 by omega]
    · rw [if_neg (show ¬ (8 : Int32) ≤ nI i from nI_ge (b := 8) (by omega) (by decide)), e8_codeAt hr (by omega), Option.bind_some]
      have hd := dg_lt r i
      rw [shlI1 (by omega), fa_or, nI_1]
      have ih' := ih (i + 1) (by omega) (by omega)
      rw [pl] at ih'
      by_cases h : dg r i = c
      · rw [if_pos (by rw [h])]; rw [if_pos h] at ih'; exact ih'
      · rw [if_neg (fun q => h ((nI_eq (by omega) (by omega)).mp q))]; rw [if_neg h, Nat.or_zero] at ih'; exact ih'
theorem e8_placesOf {N r c : Nat} (hN : 9 ≤ N) (hr : r < 1099511627776) (h1 : 1 ≤ c) (hc : c < 32) : fX8_placesOf N (lN r) (nI (sg c)) = some (nI (pl r c 8)) := by
  unfold fX8_placesOf
  rw [e8_codeOf h1 hc, Option.bind_some]
  exact e8_placesOf_l N _ hr hc N 0 (by omega) (by omega)
/-- how many places differ -/
def df (r s n : Nat) : Nat := fb_ct (fun i => dg r i != dg s i) n
theorem e8_areNear_l {N r s : Nat} (hN : 9 ≤ N) (hr : r < 1099511627776) (hs : s < 1099511627776) : ∀ K i, i ≤ 8 → 9 ≤ K + i → fX8_areNear_6 N (lN r) (lN s) K (nI (df r s i)) (nI i) = some (if df r s 8 = 1 ∧ ln r = ln s then 1 else 0) := by
  have hct : ∀ i, df r s i ≤ i := fun i => fb_ct_le _ i
  intro K
  induction K with
  | zero => intro i h1 h2; omega
  | succ K ih =>
    intro i h1 h2
    rw [fX8_areNear_6]
    have hci := hct i
    by_cases h8 : 8 ≤ i
    · have hi : i = 8 := by omega
      subst hi
      rw [if_pos (show (8 : Int32) ≤ nI 8 from nI_le (a := 8) h8 (by omega))]
      have l1 := ln_le r; have l2 := ln_le s
      by_cases hd : df r s 8 = 1
      · rw [if_pos (show nI (df r s 8) = 1 by rw [hd]; rfl), e8_length hN hr, Option.bind_some, e8_length hN hs, Option.bind_some]
        by_cases hl : ln r = ln s
        · rw [if_pos (by rw [hl]), if_pos ⟨hd, hl⟩]
        · rw [if_neg (fun q => hl ((nI_eq (by omega) (by omega)).mp q)), if_neg (fun q => hl q.2)]
      · rw [if_neg (show ¬ nI (df r s 8) = 1 from fun q => hd ((nI_eq (b := 1) (by omega) (by decide)).mp q)), if_neg (fun q => hd q.1)]
    · rw [if_neg (show ¬ (8 : Int32) ≤ nI i from nI_ge (b := 8) (by omega) (by decide)), e8_codeAt hr (by omega), Option.bind_some, e8_codeAt hs (by omega), Option.bind_some, nI_1, nI_1]
      have h1' := dg_lt r i; have h2' := dg_lt s i
      have ih' := ih (i + 1) (by omega) (by omega)
      have es : df r s (i + 1) = df r s i + (if (dg r i != dg s i) then 1 else 0) := fb_ct_succ _ i
      rw [es] at ih'
      by_cases h : dg r i = dg s i
      · rw [if_pos (by rw [h])]
        rw [if_neg (by simp [h]), Nat.add_zero] at ih'
        exact ih'
      · rw [if_neg (fun q => h ((nI_eq (by omega) (by omega)).mp q))]
        rw [if_pos (by simp [h])] at ih'
        exact ih'
theorem e8_areNear {N r s : Nat} (hN : 9 ≤ N) (hr : r < 1099511627776) (hs : s < 1099511627776) : fX8_areNear N (lN r) (lN s) = some (if df r s 8 = 1 ∧ ln r = ln s then 1 else 0) := by
  unfold fX8_areNear
  exact e8_areNear_l hN hr hs N 0 (by omega) (by omega)
