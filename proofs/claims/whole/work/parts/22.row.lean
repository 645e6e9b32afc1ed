/-! ===== digits by exponent ===== -/
def De (r e : Nat) : Nat := r / 32 ^ e % 32
theorem p32 (k : Nat) : 0 < (32 : Nat) ^ k := Nat.pow_pos (by decide)
theorem dg_De {r i : Nat} (h : i < 8) : dg r i = De r (7 - i) := by unfold dg De; rw [if_pos h]
theorem De_mul (r k e : Nat) : De (r * 32 ^ k) e = if k ≤ e then De r (e - k) else 0 := by
  unfold De
  split
  · next h =>
    have e1 : (32 : Nat) ^ e = 32 ^ (e - k) * 32 ^ k := by rw [← Nat.pow_add]; congr 1; omega
    rw [e1, Nat.mul_div_mul_right _ _ (p32 k)]
  · next h =>
    have e1 : (32 : Nat) ^ k = 32 ^ (k - e - 1) * 32 * 32 ^ e := by rw [← Nat.pow_succ, ← Nat.pow_add]; congr 1; omega
    rw [e1, ← Nat.mul_assoc, Nat.mul_div_cancel _ (p32 e), ← Nat.mul_assoc, Nat.mul_mod_left]
theorem De_div (r k e : Nat) : De (r / 32 ^ k) e = De r (e + k) := by
  unfold De; rw [Nat.div_div_eq_div_mul, ← Nat.pow_add, Nat.add_comm k e]
theorem De_big {r m e : Nat} (h : r < 32 ^ m) (he : m ≤ e) : De r e = 0 := by
  unfold De
  rw [Nat.div_eq_of_lt (Nat.lt_of_lt_of_le h (Nat.pow_le_pow_right (by decide) he))]
theorem De_mod (r m e : Nat) : De (r % 32 ^ m) e = if e < m then De r e else 0 := by
  split
  · next h =>
    unfold De
    have e1 : (32 : Nat) ^ m = 32 ^ e * 32 ^ (m - e) := by rw [← Nat.pow_add]; congr 1; omega
    rw [e1, Nat.mod_mul_right_div_self]
    have e2 : (32 : Nat) ^ (m - e) = 32 * 32 ^ (m - e - 1) := by rw [Nat.mul_comm, ← Nat.pow_succ]; congr 1; omega
    rw [e2, Nat.mod_mul_right_mod]
  · next h => exact De_big (Nat.mod_lt _ (p32 m)) (by omega)
theorem De_pow (m e : Nat) : De (32 ^ m) e = if e = m then 1 else 0 := by
  have h := De_mul 1 m e
  rw [Nat.one_mul] at h
  rw [h]
  split
  · split
    · next h2 => subst h2; rw [Nat.sub_self]; rfl
    · next h1 h2 => exact De_big (m := 1) (by decide) (by omega)
  · next h1 => rw [if_neg (by omega)]
theorem De_or (a b e : Nat) : De (a ||| b) e = De a e ||| De b e := by
  unfold De
  have e1 : ∀ x : Nat, x / 32 ^ e = x >>> (5 * e) := fun x => by rw [Nat.shiftRight_eq_div_pow, Nat.pow_mul]
  rw [e1, e1, e1, Nat.shiftRight_or_distrib]
  exact Nat.or_mod_two_pow (n := 5)
theorem De_z (e : Nat) : De 0 e = 0 := by unfold De; simp
theorem or_lt40 {a b : Nat} (ha : a < 1099511627776) (hb : b < 1099511627776) : a ||| b < 1099511627776 := Nat.or_lt_two_pow (n := 40) ha hb
/-- a row is known by its digits -/
theorem row_is {x : Nat} {f : Nat → Nat} (hx : x < 1099511627776) (hf : ∀ i, i < 8 → f i < 32) (h : ∀ e, e < 8 → De x e = f (7 - e)) : x = mkd f := by
  refine dg_ext hx (mkd_lt hf) (fun i hi => ?_)
  rw [dg_De hi, h (7 - i) (by omega), dg_mkd hf hi]
  congr 1; omega
/-! ===== words and their turns ===== -/
/-- how many signs a row has -/
def ln (r : Nat) : Nat := fa_first (fun i => dg r i == 0) 8
theorem ln_le (r : Nat) : ln r ≤ 8 := fa_first_le _ 8
theorem ln_no {r i : Nat} (h : i < ln r) : dg r i ≠ 0 := by
  have := fa_first_no (fun i => dg r i == 0) 8 i h
  simpa using this
theorem ln_yes {r : Nat} (h : ln r < 8) : dg r (ln r) = 0 := by
  have := fa_first_yes (fun i => dg r i == 0) 8 h
  simpa [ln] using this
theorem ln_is {r n : Nat} (hn : n ≤ 8) (h1 : ∀ i, i < n → dg r i ≠ 0) (h2 : n < 8 → dg r n = 0) : ln r = n := by
  have hl := ln_le r
  rcases Nat.lt_trichotomy (ln r) n with h | h | h
  · exact absurd (ln_yes (by omega)) (h1 _ h)
  · exact h
  · exact absurd (h2 (by omega)) (ln_no h)
/-- a word: one to seven letters, nothing behind them -/
def isW (r : Nat) : Prop := r < 1099511627776 ∧ 1 ≤ ln r ∧ ln r ≤ 7 ∧ (∀ i, i < ln r → 2 ≤ dg r i ∧ dg r i ≤ 27) ∧ ∀ i, ln r ≤ i → dg r i = 0
/-- digit i of turn k -/
def td (r k i : Nat) : Nat := if i < ln r - k then dg r (k + i) else if i = ln r - k then 1 else if i ≤ ln r then dg r (i - (ln r - k) - 1) else 0
def tr (r k : Nat) : Nat := mkd (td r k)
theorem td_lt (r k i : Nat) : td r k i < 32 := by
  unfold td; split
  · exact dg_lt _ _
  · split
    · decide
    · split
      · exact dg_lt _ _
      · decide
theorem tr_lt (r k : Nat) : tr r k < 1099511627776 := mkd_lt (fun i _ => td_lt r k i)
theorem dg_tr (r k : Nat) {i : Nat} (h : i < 8) : dg (tr r k) i = td r k i := dg_mkd (fun i _ => td_lt r k i) h
theorem n0 {a : Nat} (h : a < 2147483648) : nI a = 0 ↔ a = 0 := nI_eq (b := 0) h (by decide)
/-- Row.length -/
theorem e8_length_l (N : Nat) {r : Nat} (h : r < 1099511627776) : ∀ K i, i ≤ ln r → 9 ≤ K + i → fX8_length_2 N (lN r) K (nI i) = some (nI (ln r)) := by
  have hl := ln_le r
  intro K
  induction K with
  | zero => intro i h1 h2; omega
  | succ K ih =>
    intro i h1 h2
    rw [fX8_length_2]
    by_cases h8 : 8 ≤ i
    · rw [if_pos (show (8 : Int32) ≤ nI i from nI_le (a := 8) h8 (by omega)), show i = ln r by omega]
    · rw [if_neg (show ¬ (8 : Int32) ≤ nI i from nI_ge (b := 8) (by omega) (by decide)), e8_codeAt h (by omega), Option.bind_some]
      have hd := dg_lt r i
      by_cases hz : dg r i = 0
      · rw [if_pos ((n0 (by omega)).mpr hz)]
        have : ¬ i < ln r := fun q => ln_no q hz
        rw [show i = ln r by omega]
      · rw [if_neg (fun q => hz ((n0 (by omega)).mp q)), nI_1]
        have : i ≠ ln r := fun q => hz (by rw [q]; exact ln_yes (by omega))
        exact ih (i + 1) (by omega) (by omega)
theorem e8_length {N r : Nat} (hN : 9 ≤ N) (h : r < 1099511627776) : fX8_length N (lN r) = some (nI (ln r)) := by
  unfold fX8_length
  exact e8_length_l N h N 0 (Nat.zero_le _) (by omega)
