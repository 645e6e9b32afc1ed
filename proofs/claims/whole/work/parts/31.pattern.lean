/-! ===== a pattern and a word ===== -/
/-- a pattern: one to twelve of letters, ? and * -/
def PT (q : Nat → Nat) (P : Nat) : Prop := 1 ≤ P ∧ P ≤ 12 ∧ ∀ i, i < P → q i = 42 ∨ q i = 63 ∨ (97 ≤ q i ∧ q i ≤ 122)
def stq (row : Nat → Bool) : Nat → Bool
  | 0 => row 0
  | k + 1 => row (k + 1) || stq row k
def nxk (row p : Nat → Bool) : Nat → Bool
  | 0 => false
  | k + 1 => row k && p k
/-- the first i signs can make the first k letters -/
def rm (q : Nat → Nat) (r : Nat) : Nat → Nat → Bool
  | 0 => fun k => decide (k = 0)
  | i + 1 => if q i = 42 then stq (rm q r i) else nxk (rm q r i) (fun k => q i == 63 || q i == sg (dg r k))
theorem rm_star {q : Nat → Nat} {r i k : Nat} (h : q i = 42) : rm q r (i + 1) k = stq (rm q r i) k := by rw [rm, if_pos h]
theorem rm_z {q : Nat → Nat} {r i : Nat} (h : ¬ q i = 42) : rm q r (i + 1) 0 = false := by rw [rm, if_neg h, nxk]
theorem rm_s {q : Nat → Nat} {r i k : Nat} (h : ¬ q i = 42) : rm q r (i + 1) (k + 1) = (rm q r i k && (q i == 63 || q i == sg (dg r k))) := by rw [rm, if_neg h, nxk]
theorem stq_none {row : Nat → Bool} : ∀ k, (∀ j, j ≤ k → row j = false) → stq row k = false
  | 0, h => h 0 (Nat.le_refl 0)
  | k + 1, h => by rw [stq, h (k + 1) (Nat.le_refl _), stq_none k (fun j hj => h j (by omega))]; rfl
theorem stq_cong {a b : Nat → Bool} : ∀ k, (∀ j, j ≤ k → a j = b j) → stq a k = stq b k
  | 0, h => h 0 (Nat.le_refl 0)
  | k + 1, h => by rw [stq, stq, h (k + 1) (Nat.le_refl _), stq_cong k (fun j hj => h j (by omega))]
theorem rm_dead {q : Nat → Nat} {r n i : Nat} (h : ∀ k, k ≤ n → rm q r i k = false) : ∀ j, ∀ k, k ≤ n → rm q r (i + j) k = false := by
  intro j
  induction j with
  | zero => exact h
  | succ j ih =>
    intro k hk
    rw [← Nat.add_assoc]
    by_cases hs : q (i + j) = 42
    · rw [rm_star hs]; exact stq_none k (fun a ha => ih a (by omega))
    · cases k with
      | zero => exact rm_z hs
      | succ k => rw [rm_s hs, ih k (by omega)]; rfl
/-- all from the lowest one on, up to place n -/
def upM (M : Nat) : Nat → Nat
  | 0 => if M.testBit 0 then 1 else 0
  | n + 1 => upM M n ||| (if stq M.testBit (n + 1) then 2 ^ (n + 1) else 0)
theorem up_ok : ∀ M, M < 256 → ∀ n, n < 8 → (nI M ||| (-nI M)) &&& nI (2 ^ (n + 1) - 1) = nI (upM M n) ∧ upM M n < 2 ^ (n + 1) := by decide +kernel
theorem up_bit (M : Nat) : ∀ n k, k ≤ n → (upM M n).testBit k = stq M.testBit k := by
  intro n
  induction n with
  | zero =>
    intro k hk
    rw [show k = 0 by omega, upM, stq]
    cases M.testBit 0 <;> rfl
  | succ n ih =>
    intro k hk
    rw [upM, Nat.testBit_or]
    by_cases h : k = n + 1
    · subst h
      have hlt : (upM M n).testBit (n + 1) = false := by
        have : ∀ n, upM M n < 2 ^ (n + 1) := by
          intro n
          induction n with
          | zero => rw [upM]; split <;> decide
          | succ n ihn =>
            rw [upM]
            refine Nat.or_lt_two_pow (Nat.lt_trans ihn (Nat.pow_lt_pow_right (by decide) (by omega))) ?_
            split
            · exact Nat.pow_lt_pow_right (by decide) (by omega)
            · exact Nat.pow_pos (by decide)
        exact Nat.testBit_lt_two_pow (this n)
      rw [hlt, Bool.false_or]
      cases hb : stq M.testBit (n + 1) with
      | false => rw [if_neg (by decide)]; exact Nat.zero_testBit _
      | true => rw [if_pos rfl]; exact Nat.testBit_two_pow_self
    · rw [ih k (by omega)]
      have : (if stq M.testBit (n + 1) = true then 2 ^ (n + 1) else 0).testBit k = false := by
        split
        · rw [Nat.testBit_two_pow]; simp; omega
        · exact Nat.zero_testBit _
      rw [this, Bool.or_false]
theorem shl1 {M : Nat} (h : M < 2147483648) : nI M <<< ((1 : Int32) &&& 31) = nI (M * 2) := pk_shlN _ 1 (by decide) (by omega)
theorem sg_letter {x : Nat} (h1 : 97 ≤ x) (h2 : x ≤ 122) : ∃ c, 2 ≤ c ∧ c ≤ 27 ∧ x = sg c := ⟨x - 95, by omega, by omega, by unfold sg; rw [if_neg (by omega), if_neg (by omega)]; omega⟩
theorem tb_dbl (M k : Nat) : (M * 2).testBit (k + 1) = M.testBit k := by
  rw [Nat.testBit_succ, Nat.mul_div_cancel _ (by decide)]
theorem tb_dbl0 (M : Nat) : (M * 2).testBit 0 = false := by
  rw [Nat.testBit_zero]; simp
/-- one sign more -/
theorem e5_madeWith {N r n M i : Nat} {q : Nat → Nat} (hN : 9 ≤ N) (hr : r < 1099511627776) (hn : n ≤ 7) (hM : M < 256) (hb : ∀ k, k ≤ n → M.testBit k = rm q r i k) (hq : q i = 42 ∨ q i = 63 ∨ (97 ≤ q i ∧ q i ≤ 122)) : ∃ z M', fX5_madeWith N (nI M) (nI (q i)) (lN r) = some z ∧ z &&& nI (2 ^ (n + 1) - 1) = nI M' ∧ M' < 256 ∧ M' < 2 ^ (n + 1) ∧ ∀ k, k ≤ n → M'.testBit k = rm q r (i + 1) k := by
  have hp : 2 ^ (n + 1) ≤ 2 ^ 8 := Nat.pow_le_pow_right (by decide) (by omega)
  have hp0 : 0 < 2 ^ (n + 1) := Nat.pow_pos (by decide)
  unfold fX5_madeWith
  by_cases h1 : q i = 42
  · rw [if_pos (show nI (q i) = 42 by rw [h1]; rfl)]
    obtain ⟨u1, u2⟩ := up_ok M hM n (by omega)
    refine ⟨_, upM M n, rfl, u1, by omega, u2, fun k hk => ?_⟩
    rw [up_bit M n k hk, rm_star h1]
    exact stq_cong k (fun j hj => hb j (by omega))
  · rw [if_neg (show ¬ nI (q i) = 42 from fun z => h1 ((nI_eq (b := 42) (by omega) (by decide)).mp z))]
    have fin : ∀ B : Nat, B < 256 → (∀ k, k < n → B.testBit k = rm q r (i + 1) (k + 1)) → ∃ M', nI (B * 2) &&& nI (2 ^ (n + 1) - 1) = nI M' ∧ M' < 256 ∧ M' < 2 ^ (n + 1) ∧ ∀ k, k ≤ n → M'.testBit k = rm q r (i + 1) k := fun B hB hk => by
      refine ⟨B * 2 % 2 ^ (n + 1), fa_mask _ _, by have := Nat.mod_lt (B * 2) hp0; omega, Nat.mod_lt _ hp0, fun k hkn => ?_⟩
      rw [Nat.testBit_mod_two_pow]
      cases k with
      | zero => rw [tb_dbl0, rm_z h1]; simp
      | succ k => rw [tb_dbl, hk k (by omega)]; simp; omega
    by_cases h2 : q i = 63
    · rw [if_pos (show nI (q i) = 63 by rw [h2]; rfl), shl1 (by omega)]
      obtain ⟨M', a1, a2, a3, a4⟩ := fin M hM (fun k hk => by rw [rm_s h1, hb k (by omega), h2]; simp)
      exact ⟨_, M', rfl, a1, a2, a3, a4⟩
    · rw [if_neg (show ¬ nI (q i) = 63 from fun z => h2 ((nI_eq (b := 63) (by omega) (by decide)).mp z))]
      obtain ⟨c, c1, c2, c3⟩ := sg_letter (x := q i) (by omega) (by omega)
      rw [c3, e8_placesOf hN hr (by omega) (by omega), Option.bind_some, fa_and]
      have hand : M &&& pl r c 8 ≤ M := Nat.and_le_left
      rw [shl1 (by omega)]
      obtain ⟨M', a1, a2, a3, a4⟩ := fin (M &&& pl r c 8) (by omega) (fun k hk => by
        rw [Nat.testBit_and, hb k (by omega), pl_bit, rm_s h1]
        congr 1
        have e1 : (q i == 63) = false := by simp [h2]
        rw [e1, c3, Bool.false_or]
        have e2 : decide (k < 8) = true := by simp; omega
        rw [e2, Bool.true_and]
        by_cases hd : dg r k = c
        · simp [hd]
        · have : ¬ sg c = sg (dg r k) := fun z => hd (sg_inj z).symm
          simp [hd, this])
      exact ⟨_, M', rfl, a1, a2, a3, a4⟩
