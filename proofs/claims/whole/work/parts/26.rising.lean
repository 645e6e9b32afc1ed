/-! ===== Rising: a row of rising numbers ===== -/
def Ris (g : Nat → Int64) (d : Nat → Nat) (m : Nat) : Prop := ∀ i, i < m → g i = lN (d i)
def Inc (d : Nat → Nat) (m : Nat) : Prop := ∀ i j, i < j → j < m → d i < d j
def Sma (d : Nat → Nat) (m : Nat) : Prop := ∀ i, i < m → d i < 4611686018427387904
/-- how many are below -/
def bl (d : Nat → Nat) (m x : Nat) : Nat := fa_first (fun i => decide (x ≤ d i)) m
theorem bl_le (d : Nat → Nat) (m x : Nat) : bl d m x ≤ m := fa_first_le _ m
theorem bl_lt {d : Nat → Nat} {m x i : Nat} (h : i < bl d m x) : d i < x := by
  have := fa_first_no (fun i => decide (x ≤ d i)) m i h
  simpa using this
theorem bl_at {d : Nat → Nat} {m x : Nat} (h : bl d m x < m) : x ≤ d (bl d m x) := by
  have := fa_first_yes (fun i => decide (x ≤ d i)) m h
  simpa [bl] using this
theorem bl_ge {d : Nat → Nat} {m x i : Nat} (hI : Inc d m) (h : bl d m x ≤ i) (hi : i < m) : x ≤ d i := by
  have h1 := bl_at (d := d) (x := x) (Nat.lt_of_le_of_lt h hi)
  rcases Nat.eq_or_lt_of_le h with q | q
  · rw [← q]; exact h1
  · have := hI _ _ q hi; omega
theorem bl_is {d : Nat → Nat} {m x p : Nat} (hp : p ≤ m) (h1 : ∀ i, i < p → d i < x) (h2 : p < m → x ≤ d p) : bl d m x = p := by
  have hb := bl_le d m x
  rcases Nat.lt_trichotomy (bl d m x) p with h | h | h
  · have := h1 _ h; have := bl_at (d := d) (m := m) (x := x) (by omega); omega
  · exact h
  · have := bl_lt h; have := h2 (by omega); omega
theorem bl_there {d : Nat → Nat} {m x : Nat} (hI : Inc d m) : (∃ i, i < m ∧ d i = x) ↔ (bl d m x < m ∧ d (bl d m x) = x) := by
  constructor
  · rintro ⟨i, hi, e⟩
    have hb : bl d m x = i := bl_is (by omega) (fun j hj => by rw [← e]; exact hI _ _ hj hi) (fun _ => by omega)
    rw [hb]; exact ⟨hi, e⟩
  · rintro ⟨h1, h2⟩; exact ⟨_, h1, h2⟩
def insF (d : Nat → Nat) (p x j : Nat) : Nat := if j < p then d j else if j = p then x else d (j - 1)
def delF (d : Nat → Nat) (p j : Nat) : Nat := if j < p then d j else d (j + 1)
theorem ins_inc {d : Nat → Nat} {m x : Nat} (hI : Inc d m) (hn : ¬ ∃ i, i < m ∧ d i = x) : Inc (insF d (bl d m x) x) (m + 1) := by
  intro i j hij hj
  have hb := bl_le d m x
  unfold insF
  by_cases h1 : j < bl d m x
  · rw [if_pos (by omega), if_pos h1]; exact hI _ _ hij (by omega)
  · rw [if_neg h1]
    by_cases h2 : j = bl d m x
    · rw [if_pos h2, if_pos (by omega)]; exact bl_lt (m := m) (by omega)
    · rw [if_neg h2]
      have hj1 : x ≤ d (j - 1) := bl_ge hI (by omega) (by omega)
      have hj2 : d (j - 1) ≠ x := fun q => hn ⟨j - 1, by omega, q⟩
      by_cases h3 : i < bl d m x
      · rw [if_pos h3]; have := bl_lt h3; omega
      · rw [if_neg h3]
        by_cases h4 : i = bl d m x
        · rw [if_pos h4]; omega
        · rw [if_neg h4]; exact hI _ _ (by omega) (by omega)
theorem del_inc {d : Nat → Nat} {m p : Nat} (hI : Inc d m) : Inc (delF d p) (m - 1) := by
  intro i j hij hj
  unfold delF
  split <;> split <;> exact hI _ _ (by omega) (by omega)
theorem ins_all {P : Nat → Prop} {d : Nat → Nat} {m p x : Nat} (h : ∀ i, i < m → P (d i)) (hx : P x) : ∀ i, i < m + 1 → p ≤ m → P (insF d p x i) := by
  intro i hi hp
  unfold insF
  split
  · exact h _ (by omega)
  · split
    · exact hx
    · exact h _ (by omega)
theorem del_all {P : Nat → Prop} {d : Nat → Nat} {m p : Nat} (h : ∀ i, i < m → P (d i)) : ∀ i, i < m - 1 → P (delF d p i) := by
  intro i hi
  unfold delF
  split <;> exact h _ (by omega)
/-- a place in range -/
theorem gi {α : Type} {a n : Nat} {X : Option α} (h : a < n) (hn : n ≤ 2147483648) : (if nI a < 0 ∨ n ≤ (nI a).toNatClampNeg then none else X) = X := by
  rw [if_neg]
  intro q
  rcases q with q | q
  · exact nI_pos (by omega) q
  · rw [nI_clamp (by omega)] at q; omega
theorem shr1 {n : Nat} (h : n < 2147483648) : nI n >>> ((1 : Int32) &&& 31) = nI (n / 2) := pk_shrN h _ 1 (by decide)
theorem e7_below_l {N n m x : Nat} {g : Nat → Int64} {d : Nat → Nat} (hR : Ris g d m) (hI : Inc d m) (hS : Sma d m) (hx : x < 4611686018427387904) (hm : m ≤ n) (hn : n ≤ 511) : ∀ e K b, e ≤ 8 → e + 2 ≤ K → b ≤ bl d m x → bl d m x < b + 2 * 2 ^ e → fX7_below_7 N n (nI m) g (lN x) K (nI b) (nI (2 ^ e)) = some (nI (bl d m x)) := by
  have hbm := bl_le d m x
  intro e
  induction e with
  | zero =>
    intro K b he hK h1 h2
    obtain ⟨K, rfl⟩ : ∃ K', K = K' + 2 := ⟨K - 2, by omega⟩
    rw [Nat.pow_zero] at h2 ⊢
    rw [fX7_below_7, if_neg (by decide), nI_add]
    have hs : nI 1 >>> ((1 : Int32) &&& 31) = nI 0 := shr1 (by decide)
    have hend : ∀ c, fX7_below_7 N n (nI m) g (lN x) (K + 1) (nI c) (nI 0) = some (nI c) := fun c => by
      rw [fX7_below_7, if_pos (by decide)]
    rw [hs, hend, hend]
    by_cases hsz : m < b + 1
    · rw [if_pos (nI_lt hsz (by omega)), show b = bl d m x by omega]
    · rw [if_neg (nI_nlt (by omega) (by omega))]
      have e1 : nI (b + 1) - 1 = nI b := nI_pred b
      rw [e1, gi (by omega) (by omega), nI_clamp (by omega), hR b (by omega)]
      have hdb := hS b (by omega)
      by_cases hlt : d b < x
      · rw [if_neg (fun q => by rw [lg_cmp_ge, pk_lLE (by omega) (by omega)] at q; omega)]
        have : b + 1 ≤ bl d m x := Classical.byContradiction fun q => by have := bl_ge hI (x := x) (i := b) (by omega) (by omega); omega
        rw [show b + 1 = bl d m x by omega]
      · rw [if_pos ((lg_cmp_ge _ _).mpr ((pk_lLE (by omega) (by omega)).mpr (by omega)))]
        have : ¬ b < bl d m x := fun q => by have := bl_lt q; omega
        rw [show b = bl d m x by omega]
  | succ e ih =>
    intro K b he hK h1 h2
    obtain ⟨K, rfl⟩ : ∃ K', K = K' + 1 := ⟨K - 1, by omega⟩
    have hp : 2 ^ e < 2 ^ 8 := Nat.pow_lt_pow_right (by decide) (by omega)
    have hp0 : 0 < 2 ^ e := Nat.pow_pos (by decide)
    have hp1 : 2 ^ (e + 1) = 2 * 2 ^ e := by rw [Nat.pow_succ, Nat.mul_comm]
    rw [fX7_below_7, if_neg (show ¬ nI (2 ^ (e + 1)) ≤ 0 from nI_nle (by omega) (by omega)), nI_add, shr1 (by omega), show 2 ^ (e + 1) / 2 = 2 ^ e by omega]
    by_cases hsz : m < b + 2 ^ (e + 1)
    · rw [if_pos (nI_lt hsz (by omega))]
      exact ih K b (by omega) (by omega) h1 (by omega)
    · rw [if_neg (nI_nlt (by omega) (by omega))]
      have e1 : nI (b + 2 ^ (e + 1)) - 1 = nI (b + 2 ^ (e + 1) - 1) := pk_sub (b := 1) (by omega)
      rw [e1, gi (by omega) (by omega), nI_clamp (by omega), hR _ (by omega)]
      have hdb := hS (b + 2 ^ (e + 1) - 1) (by omega)
      by_cases hlt : d (b + 2 ^ (e + 1) - 1) < x
      · rw [if_neg (fun q => by rw [lg_cmp_ge, pk_lLE (by omega) (by omega)] at q; omega)]
        have : b + 2 ^ (e + 1) ≤ bl d m x := Classical.byContradiction fun q => by have := bl_ge hI (x := x) (i := b + 2 ^ (e + 1) - 1) (by omega) (by omega); omega
        exact ih K _ (by omega) (by omega) this (by omega)
      · rw [if_pos ((lg_cmp_ge _ _).mpr ((pk_lLE (by omega) (by omega)).mpr (by omega)))]
        have : ¬ b + 2 ^ (e + 1) - 1 < bl d m x := fun q => by have := bl_lt q; omega
        exact ih K b (by omega) (by omega) h1 (by omega)
theorem e7_below {N n m x : Nat} {g : Nat → Int64} {d : Nat → Nat} (hN : 10 ≤ N) (hR : Ris g d m) (hI : Inc d m) (hS : Sma d m) (hx : x < 4611686018427387904) (hm : m ≤ n) (hn : n ≤ 511) : fX7_below N n (nI m) g (lN x) = some (nI (bl d m x)) := by
  unfold fX7_below
  have hbm := bl_le d m x
  exact e7_below_l hR hI hS hx hm hn 8 N 0 (by omega) (by omega) (by omega) (by omega)
theorem e7_isAt {n m x p : Nat} {g : Nat → Int64} {d : Nat → Nat} (hR : Ris g d m) (hS : Sma d m) (hx : x < 4611686018427387904) (hm : m ≤ n) (hn : n ≤ 511) (hp : p ≤ m) : fX7_isAt n (nI m) g (nI p) (lN x) = some (if p < m ∧ d p = x then 1 else 0) := by
  unfold fX7_isAt
  by_cases h : m ≤ p
  · rw [if_pos (nI_le h (by omega)), if_neg (fun q => by omega)]
  · rw [if_neg (nI_ge (by omega) (by omega)), gi (by omega) (by omega), nI_clamp (by omega), hR p (by omega)]
    have hdp := hS p (by omega)
    by_cases hq : d p = x
    · rw [if_pos ((lg_cmp_eq _ _).mpr (by rw [hq])), if_pos ⟨by omega, hq⟩]
    · rw [if_neg (fun q => hq ((pk_lEQ (by omega) (by omega)).mp ((lg_cmp_eq _ _).mp q))), if_neg (fun q => hq q.2)]
theorem e7_hasNumber {m p : Nat} (hm : m < 2147483648) (hp : p < 2147483648) : fX7_hasNumber (nI m) (nI p) = some (if p < m then 1 else 0) := by
  unfold fX7_hasNumber
  rw [if_neg (nI_pos hp)]
  by_cases h : p < m
  · rw [if_neg (nI_ge h hm), if_pos h]
  · rw [if_pos (nI_le (by omega) hp), if_neg h]
theorem e7_hasNumber_neg {x y : Int32} (h : x < 0) : fX7_hasNumber y x = some 0 := by
  unfold fX7_hasNumber; rw [if_pos h]
theorem e7_at {n m p : Nat} {g : Nat → Int64} {d : Nat → Nat} (hR : Ris g d m) (hm : m ≤ n) (hn : n ≤ 511) (hp : p < 2147483648) : fX7_at n (nI m) g (nI p) = some (lN (if p < m then d p else 0)) := by
  unfold fX7_at
  rw [e7_hasNumber (by omega) hp, Option.bind_some]
  by_cases h : p < m
  · rw [if_pos h, if_neg (by decide), gi (by omega) (by omega), nI_clamp (by omega), hR p h, if_pos h]
  · rw [if_neg h, if_pos rfl, if_neg h]; rfl
theorem e7_at_neg {n : Nat} {g : Nat → Int64} {x y : Int32} (h : x < 0) : fX7_at n y g x = some 0 := by
  unfold fX7_at; rw [e7_hasNumber_neg h, Option.bind_some, if_pos rfl]
