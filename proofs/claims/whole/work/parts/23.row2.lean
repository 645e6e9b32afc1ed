/-- the sign of a code: nothing, the mark, a letter -/
def sg (c : Nat) : Nat := if c = 0 then 0 else if c = 1 then 36 else c + 95
theorem sg_lt {c : Nat} (h : c < 32) : sg c < 128 := by unfold sg; split <;> (try split) <;> omega
theorem sg_inj {a b : Nat} (h : sg a = sg b) : a = b := by
  unfold sg at h; split at h <;> split at h <;> (try split at h) <;> (try split at h) <;> omega
theorem sg_mono {a b : Nat} (h : a < b) : sg a < sg b := by
  unfold sg; split <;> split <;> (try split) <;> (try split) <;> omega
theorem sg_ltI {a b : Nat} : sg a < sg b ↔ a < b := by
  refine ⟨fun h => ?_, sg_mono⟩
  rcases Nat.lt_trichotomy a b with q | q | q
  · exact q
  · rw [q] at h; omega
  · have := sg_mono q; omega
theorem e8_codeOf {c : Nat} (h1 : 1 ≤ c) (h : c < 32) : fX8_codeOf (nI (sg c)) = some (nI c) := by
  unfold fX8_codeOf
  by_cases hc : c = 1
  · subst hc; rfl
  · have e : sg c = c + 95 := by unfold sg; rw [if_neg (by omega), if_neg hc]
    rw [e, if_neg (show ¬ nI (c + 95) = 36 from fun q => by have := (nI_eq (b := 36) (by omega) (by decide)).mp q; omega)]
    have e1 : nI (c + 95) - 97 = nI (c - 2) := (pk_sub (b := 97) (by omega)).trans (by rw [show c + 95 - 97 = c - 2 by omega])
    have e2 : nI (c - 2) + 2 = nI c := (nI_add (c - 2) 2).trans (by congr 1; omega)
    rw [e1, e2, show (31 : Int32) = nI (2 ^ 5 - 1) from rfl, fa_mask, Nat.mod_eq_of_lt h]
theorem e8_isPlace {i : Nat} (h : i < 2147483648) : fX8_isPlace (nI i) = some (if i < 8 then 1 else 0) := by
  unfold fX8_isPlace
  rw [if_neg (nI_pos h)]
  by_cases h8 : i < 8
  · rw [if_neg (show ¬ (8 : Int32) ≤ nI i from nI_ge (b := 8) h8 (by decide)), if_pos h8]
  · rw [if_pos (show (8 : Int32) ≤ nI i from nI_le (a := 8) (by omega) h), if_neg h8]
theorem De_cmul {c : Nat} (h : c < 32) (m e : Nat) : De (c * 32 ^ m) e = if e = m then c else 0 := by
  rw [De_mul]
  split
  · next h1 =>
    split
    · next h2 => subst h2; rw [Nat.sub_self]; unfold De; rw [Nat.pow_zero, Nat.div_one, Nat.mod_eq_of_lt h]
    · next h2 => exact De_big (m := 1) (by omega) (by omega)
  · next h1 => rw [if_neg (by omega)]
theorem cmul_lt {c m : Nat} (h : c < 32) (hm : m < 8) : c * 32 ^ m < 1099511627776 := by
  have h1 : c * 32 ^ m < 32 * 32 ^ m := Nat.mul_lt_mul_of_pos_right h (p32 m)
  have h2 : 32 * 32 ^ m ≤ 32 ^ 8 := by rw [Nat.mul_comm, ← Nat.pow_succ]; exact Nat.pow_le_pow_right (by decide) (by omega)
  omega
/-- the row with a code at a place -/
def setd (r i c : Nat) : Nat := mkd (fun j => if j = i then c else dg r j)
theorem setd_ok {r i c : Nat} (hc : c < 32) : ∀ j, j < 8 → (fun j => if j = i then c else dg r j) j < 32 := fun j _ => by
  dsimp only; split
  · exact hc
  · exact dg_lt _ _
theorem setd_lt {r i c : Nat} (hc : c < 32) : setd r i c < 1099511627776 := mkd_lt (setd_ok hc)
theorem dg_setd {r i c j : Nat} (hc : c < 32) (hj : j < 8) : dg (setd r i c) j = if j = i then c else dg r j := dg_mkd (setd_ok hc) hj
theorem or_setd {r i c : Nat} (hr : r < 1099511627776) (hc : c < 32) (hi : i < 8) (hz : dg r i = 0) : r ||| c * 32 ^ (7 - i) = setd r i c := by
  refine row_is (or_lt40 hr (cmul_lt hc (by omega))) (setd_ok hc) (fun e he => ?_)
  rw [De_or, De_cmul hc]
  have e1 : De r e = dg r (7 - e) := by rw [dg_De (by omega)]; congr 1; omega
  by_cases h : e = 7 - i
  · have h7 : 7 - e = i := by omega
    rw [if_pos h, e1, h7, hz, Nat.zero_or, if_pos rfl]
  · rw [if_neg h, Nat.or_zero, e1, if_neg (by omega)]
theorem e8_put {r c i : Nat} (hr : r < 1099511627776) (h1 : 1 ≤ c) (hc : c < 32) (hi : i < 8) (hz : dg r i = 0) : fX8_put (lN r) (nI i) (nI (sg c)) = some (lN (setd r i c)) := by
  unfold fX8_put
  rw [e8_isPlace (by omega), if_pos hi, Option.bind_some, if_neg (by decide), e8_codeOf h1 hc, Option.bind_some]
  unfold fX8_shiftOf
  have e1 : (7 : Int32) - nI i = nI (7 - i) := pk_sub (a := 7) (by omega)
  have e2 : (5 : Int32) * nI (7 - i) = nI (5 * (7 - i)) := pk_mul 5 (7 - i)
  have hp := cmul_lt hc (show 7 - i < 8 by omega)
  rw [e1, e2, Option.bind_some, nI_l (by omega), shlL c (by omega), pw32, wb_or (by omega) (by omega), or_setd hr hc hi hz]
theorem e8_put_out {r i : Nat} (x : Int32) (hi : 8 ≤ i) (h : i < 2147483648) : fX8_put (lN r) (nI i) x = some (lN r) := by
  unfold fX8_put
  rw [e8_isPlace h, if_neg (by omega), Option.bind_some, if_pos rfl]
/-- the first signs of a row -/
def hd (r s : Nat) : Nat := mkd (fun i => if i < s then dg r i else 0)
theorem hd_ok (r s : Nat) : ∀ j, j < 8 → (fun i => if i < s then dg r i else 0) j < 32 := fun j _ => by
  dsimp only; split
  · exact dg_lt _ _
  · decide
theorem hd_lt (r s : Nat) : hd r s < 1099511627776 := mkd_lt (hd_ok r s)
theorem dg_hd {r s i : Nat} (hi : i < 8) : dg (hd r s) i = if i < s then dg r i else 0 := dg_mkd (hd_ok r s) hi
theorem hd_is {r s : Nat} (hr : r < 1099511627776) (hs : s ≤ 8) : r / 32 ^ (8 - s) * 32 ^ (8 - s) = hd r s := by
  refine row_is (Nat.lt_of_le_of_lt (Nat.div_mul_le_self _ _) hr) (hd_ok r s) (fun e he => ?_)
  rw [De_mul]
  have e1 : De r e = dg r (7 - e) := by rw [dg_De (by omega)]; congr 1; omega
  by_cases h : 8 - s ≤ e
  · rw [if_pos h, De_div, if_pos (by omega), ← e1]; congr 1; omega
  · rw [if_neg h, if_neg (by omega)]
theorem e8_head {r s : Nat} (hr : r < 1099511627776) (hs : s < 2147483648) : fX8_head (lN r) (nI s) = some (lN (hd r s)) := by
  unfold fX8_head
  have key : (if (0 : Int32) < (if (8 : Int32) < nI s then (8 : Int32) else nI s) then (if (8 : Int32) < nI s then (8 : Int32) else nI s) else (0 : Int32)) = nI (min s 8) := by
    by_cases h8 : 8 < s
    · rw [if_pos (show (8 : Int32) < nI s from nI_lt (a := 8) h8 hs), if_pos (by decide)]
      rw [show min s 8 = 8 by omega]; rfl
    · rw [if_neg (show ¬ (8 : Int32) < nI s from nI_nlt (a := 8) (by omega) (by decide))]
      by_cases h0 : 0 < s
      · rw [if_pos (show (0 : Int32) < nI s from nI_lt (a := 0) h0 hs)]; congr 1; omega
      · rw [if_neg (show ¬ (0 : Int32) < nI s from nI_nlt (a := 0) (by omega) (by decide))]
        rw [show min s 8 = 0 by omega]; rfl
  rw [key]
  have e1 : (8 : Int32) - nI (min s 8) = nI (8 - min s 8) := pk_sub (a := 8) (by omega)
  have e2 : (5 : Int32) * nI (8 - min s 8) = nI (5 * (8 - min s 8)) := pk_mul 5 _
  rw [e1, e2, shrL (by omega) (by omega), shlL _ (by omega), pw32, hd_is hr (by omega)]
  have e3 : hd r (min s 8) = hd r s := by
    unfold hd
    refine mkd_cong (fun i hi => ?_)
    by_cases h : i < s
    · rw [if_pos h, if_pos (by omega)]
    · rw [if_neg h, if_neg (by omega)]
  rw [e3]
theorem e8_signAt {r i : Nat} (hr : r < 1099511627776) (hi : i < 2147483648) : fX8_signAt (lN r) (nI i) = some (if dg r i = 0 then -1 else nI (sg (dg r i))) := by
  unfold fX8_signAt
  have hd := dg_lt r i
  rw [e8_codeAt hr hi, Option.bind_some]
  by_cases h0 : dg r i = 0
  · rw [if_pos ((n0 (by omega)).mpr h0), if_pos h0]
  · rw [if_neg (fun q => h0 ((n0 (by omega)).mp q)), if_neg h0]
    unfold sg
    rw [if_neg h0]
    by_cases h1 : dg r i = 1
    · rw [if_pos (show nI (dg r i) = 1 by rw [h1]; rfl), if_pos h1]; rfl
    · rw [if_neg (show ¬ nI (dg r i) = 1 from fun q => h1 ((nI_eq (b := 1) (by omega) (by decide)).mp q)), if_neg h1]
      have e1 : nI (dg r i) - 2 = nI (dg r i - 2) := pk_sub (b := 2) (by omega)
      have e2 : nI (dg r i - 2) + 97 = nI (dg r i + 95) := (nI_add _ 97).trans (by congr 1; omega)
      rw [e1, e2]
theorem e8_signAt_neg {r : Nat} {x : Int32} (h : x < 0) : fX8_signAt (lN r) x = some (-1) := by
  unfold fX8_signAt
  rw [e8_codeAt_neg h, Option.bind_some, if_pos rfl]
