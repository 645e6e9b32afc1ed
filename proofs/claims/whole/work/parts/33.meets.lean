/-! ===== the model tries a pattern ===== -/
/-- the pattern as it lies in the model, at p -/
def PA (f : Nat → Int32) (p : Nat) (q : Nat → Nat) (P : Nat) : Prop := f p = nI P ∧ ∀ i, i < P → f (p + 1 + i) = nI (q i)
theorem bitI {S i : Nat} (hS : S < 2147483648) (hi : i < 31) : (nI S >>> (nI i &&& 31)) &&& 1 = nI (if S.testBit i then 1 else 0) := by
  rw [pk_shrN hS _ i (s_l i (by omega)), show (1 : Int32) = nI (2 ^ 1 - 1) from rfl, fa_mask, Nat.testBit_eq_decide_div_mod_eq]
  rcases (show S / 2 ^ i % 2 = 0 ∨ S / 2 ^ i % 2 = 1 by omega) with h | h <;> rw [show (2 : Nat) ^ 1 = 2 by rfl, h] <;> rfl
theorem shl2 {k : Nat} (hk : k < 30) : (2 : Int32) <<< (nI k &&& 31) = nI (2 ^ (k + 1)) := by
  have hp : 2 ^ (k + 1) < 2 ^ 32 := Nat.pow_lt_pow_right (by decide) (by omega)
  have h := pk_shlN (n := 2) (nI k &&& 31) k (s_l k (by omega)) (by rw [Nat.pow_succ] at hp; omega)
  rw [show 2 * 2 ^ k = 2 ^ (k + 1) by rw [Nat.pow_succ, Nat.mul_comm]] at h
  exact h
/-- a set carried over stars -/
def cl (q : Nat → Nat) (S : Nat → Bool) : Nat → Bool
  | 0 => S 0
  | i + 1 => S (i + 1) || (cl q S i && q i == 42)
theorem cl_cong {q : Nat → Nat} {a b : Nat → Bool} : ∀ k, (∀ j, j ≤ k → a j = b j) → cl q a k = cl q b k
  | 0, h => h 0 (Nat.le_refl 0)
  | k + 1, h => by rw [cl, cl, h (k + 1) (Nat.le_refl _), cl_cong k (fun j hj => h j (by omega))]
theorem e12_goesOn_l {N P p : Nat} {x : Int32} {f : Nat → Int32} {q : Nat → Nat} (hp : p + 14 ≤ 5228) (hq : PT q P) (hf : PA f p q P) (S : Nat → Bool) : ∀ K i T, i ≤ P → P + 1 ≤ K + i → T < 2 ^ 13 → (∀ j, T.testBit j = if j ≤ i then cl q S j else S j) → ∃ T', fX12_goesOn_5 N f (nI p) x K (nI T) (nI i) = some (nI T') ∧ T' < 2 ^ 13 ∧ ∀ j, j ≤ P → T'.testBit j = cl q S j := by
  obtain ⟨hP1, hP12, hqs⟩ := hq
  intro K
  induction K with
  | zero => intro i T h1 h2; omega
  | succ K ih =>
    intro i T h1 h2 hT hb
    rw [fX12_goesOn_5, gi (by omega) (by decide), nI_clamp (by omega), hf.1]
    by_cases hi : P ≤ i
    · rw [if_pos (nI_le hi (by omega))]
      exact ⟨T, rfl, hT, fun j hj => by rw [hb j, if_pos (by omega)]⟩
    · rw [if_neg (nI_ge (by omega) (by omega)), bitI (by omega) (by omega), nI_1, nI_add, gi (by omega) (by decide), nI_clamp (by omega), hf.2 i (by omega), nI_1, shl2 (by omega), fa_or]
      have hbi := hb i
      rw [if_pos (Nat.le_refl i)] at hbi
      have hp13 : 2 ^ (i + 1) < 2 ^ 13 := Nat.pow_lt_pow_right (by decide) (by omega)
      have keep : (cl q S i && q i == 42) = false → ∀ j, T.testBit j = if j ≤ i + 1 then cl q S j else S j := fun hc j => by
        rw [hb j]
        by_cases h : j ≤ i
        · rw [if_pos h, if_pos (by omega)]
        · by_cases h3 : j = i + 1
          · subst h3; rw [if_neg h, if_pos (Nat.le_refl _), cl, hc, Bool.or_false]
          · rw [if_neg h, if_neg (by omega)]
      rw [hbi]
      cases hc : cl q S i with
      | false =>
        rw [if_neg (by decide)]
        exact ih (i + 1) T (by omega) (by omega) hT (keep (by rw [hc]; rfl))
      | true =>
        rw [if_pos (by decide)]
        by_cases hs : q i = 42
        · rw [if_pos (show nI (q i) = 42 by rw [hs]; rfl)]
          refine ih (i + 1) _ (by omega) (by omega) (Nat.or_lt_two_pow hT hp13) (fun j => ?_)
          rw [Nat.testBit_or, hb j, Nat.testBit_two_pow]
          by_cases h : j ≤ i
          · rw [if_pos h, if_pos (by omega)]
            have : decide (i + 1 = j) = false := by simp; omega
            rw [this, Bool.or_false]
          · by_cases h3 : j = i + 1
            · subst h3; rw [if_neg h, if_pos (Nat.le_refl _), cl, hc, hs]; simp
            · rw [if_neg h, if_neg (by omega)]
              have : decide (i + 1 = j) = false := by simp; omega
              rw [this, Bool.or_false]
        · have hqi := hqs i (by omega)
          rw [if_neg (show ¬ nI (q i) = 42 from fun z => hs ((nI_eq (b := 42) (by omega) (by decide)).mp z))]
          exact ih (i + 1) T (by omega) (by omega) hT (keep (by simp [hs]))
theorem e12_goesOn {N P p T : Nat} {f : Nat → Int32} {q : Nat → Nat} (hN : 1000 ≤ N) (hp : p + 14 ≤ 5228) (hq : PT q P) (hf : PA f p q P) (hT : T < 2 ^ 13) : ∃ T', fX12_goesOn N f (nI p) (nI T) = some (nI T') ∧ T' < 2 ^ 13 ∧ ∀ j, j ≤ P → T'.testBit j = cl q T.testBit j := by
  unfold fX12_goesOn
  have h12 := hq.2.1
  refine e12_goesOn_l hp hq hf T.testBit N 0 T (by omega) (by omega) hT (fun j => ?_)
  by_cases h : j ≤ 0
  · rw [if_pos h, show j = 0 by omega]; rfl
  · rw [if_neg h]
/-- what the model's set holds after k letters -/
def sb (q : Nat → Nat) (P r k i : Nat) : Bool := if i < P ∧ q i = 42 then rm q r (i + 1) k else rm q r i k
theorem sb_0 {q : Nat → Nat} {P r : Nat} : ∀ i, i ≤ P → cl q (fun j => decide (j = 0)) i = sb q P r 0 i := by
  have h0 : ∀ i, cl q (fun j => decide (j = 0)) i = rm q r i 0 := by
    intro i
    induction i with
    | zero => rfl
    | succ i ih =>
      rw [cl, ih]
      by_cases h : q i = 42
      · rw [rm_star h, stq]; simp [h]
      · rw [rm_z h]; simp [h]
  intro i hi
  rw [h0]
  unfold sb
  split
  · next h => rw [rm_star h.2, stq]
  · rfl
/-- the set behind one letter more, ahead of the stars -/
def nx (q : Nat → Nat) (P r k : Nat) (j : Nat) : Bool := (decide (j < P) && (sb q P r k j && q j == 42)) || (match j with | 0 => false | i + 1 => decide (i < P) && (sb q P r k i && (!(q i == 42) && (q i == 63 || q i == sg (dg r k)))))
theorem sb_s {q : Nat → Nat} {P r k : Nat} : ∀ i, i ≤ P → cl q (nx q P r k) i = sb q P r (k + 1) i := by
  intro i
  induction i with
  | zero =>
    intro hi
    rw [cl, nx]
    by_cases h : 0 < P ∧ q 0 = 42
    · have e1 : sb q P r k 0 = rm q r 1 k := by unfold sb; rw [if_pos h]
      have e2 : sb q P r (k + 1) 0 = rm q r 1 (k + 1) := by unfold sb; rw [if_pos h]
      rw [e1, e2, rm_star h.2, rm_star h.2, stq]
      simp [h.1, h.2, rm]
    · have e2 : sb q P r (k + 1) 0 = rm q r 0 (k + 1) := by unfold sb; rw [if_neg h]
      rw [e2, rm]
      by_cases h0 : 0 < P
      · have : ¬ q 0 = 42 := fun z => h ⟨h0, z⟩
        simp [this]
      · simp [h0]
  | succ i ih =>
    intro hi
    have hiP : i < P := by omega
    rw [cl, ih (by omega), nx]
    have hA : ((decide (i < P) && (sb q P r k i && (!(q i == 42) && (q i == 63 || q i == sg (dg r k))))) || (sb q P r (k + 1) i && q i == 42)) = rm q r (i + 1) (k + 1) := by
      by_cases h : q i = 42
      · rw [sb, sb, if_pos ⟨hiP, h⟩, if_pos ⟨hiP, h⟩]; simp [h]
      · rw [sb, sb, if_neg (fun z => h z.2), if_neg (fun z => h z.2), rm_s h]
        have hbq : (q i == 42) = false := by simp [h]
        simp [hbq, hiP]
    rw [Bool.or_assoc, hA]
    unfold sb
    by_cases h : i + 1 < P ∧ q (i + 1) = 42
    · rw [if_pos h, if_pos h, rm_star h.2, rm_star h.2, stq]
      simp [h.1, h.2, Bool.or_comm]
    · rw [if_neg h, if_neg h]
      by_cases h1 : i + 1 < P
      · have : ¬ q (i + 1) = 42 := fun z => h ⟨h1, z⟩
        simp [this]
      · simp [h1]

/-- one letter more: the inner loop -/
theorem e12_meets_27 {N P p x r k : Nat} {f : Nat → Int32} {q : Nat → Nat} (rc : Int32 → Int32 → Option Int32) (hN : 1000 ≤ N) (hp : p + 14 ≤ 5228) (hq : PT q P) (hf : PA f p q P) (hw : WA f x r) (hx : x + 8 ≤ 5228) (hl : ln r ≤ 7) (hk : k < ln r) {S : Nat} (hS : S < 2 ^ 13) (hSb : ∀ j, j ≤ P → S.testBit j = sb q P r k j) : ∀ K i T, i ≤ P → P + 1 ≤ K + i → T < 2 ^ 13 → (∀ j, T.testBit j = ((decide (j < i) && (sb q P r k j && q j == 42)) || (match j with | 0 => false | c + 1 => decide (c < i) && (sb q P r k c && (!(q c == 42) && (q c == 63 || q c == sg (dg r k))))))) → ∃ T', fX12_meets_27 N f (nI p) (nI x) rc K (nI S) (nI (k + 1)) (nI T) (nI i) = rc (nI T') (nI (k + 2)) ∧ T' < 2 ^ 13 ∧ ∀ j, j ≤ P → T'.testBit j = sb q P r (k + 1) j := by
  have hP12 := hq.2.1
  intro K
  induction K with
  | zero => intro i T h1 h2; omega
  | succ K ih =>
    intro i T h1 h2 hT hb
    rw [fX12_meets_27, gi (by omega) (by decide), nI_clamp (by omega), hf.1]
    by_cases hi : P ≤ i
    · have hiP : i = P := by omega
      subst hiP
      rw [if_pos (nI_le hi (by omega))]
      obtain ⟨T', a1, a2, a3⟩ := e12_goesOn hN hp hq hf hT
      rw [a1, Option.bind_some, nI_1]
      refine ⟨T', rfl, a2, fun j hj => ?_⟩
      rw [a3 j hj, ← sb_s j hj]
      exact cl_cong j (fun c hc => by rw [hb c]; cases c <;> rfl)
    · have hqi := hq.2.2 i (by omega)
      rw [if_neg (nI_ge (by omega) (by omega)), nI_1, nI_add, gi (by omega) (by decide), nI_clamp (by omega), hf.2 i (by omega), bitI (by omega) (by omega), hSb i (by omega), nI_add, gi (by omega) (by decide), nI_clamp (by omega), show x + (k + 1) = x + 1 + k by omega, hw.2 k hk, nI_1, shlI1 (by omega), fa_or]
      unfold fX12_meets_100
      rw [shl2 (by omega), fa_or, nI_1, show (0 : Int32) = nI 0 from rfl, fa_or, Nat.or_zero]
      have hsg := sg_lt (dg_lt r k)
      have hp13 : 2 ^ (i + 1) < 2 ^ 13 := Nat.pow_lt_pow_right (by decide) (by omega)
      have hp12 : 2 ^ i < 2 ^ 13 := Nat.pow_lt_pow_right (by decide) (by omega)
      have step : ∀ (b1 b2 : Bool) (T2 : Nat), (sb q P r k i && q i == 42) = b1 → (sb q P r k i && (!(q i == 42) && (q i == 63 || q i == sg (dg r k)))) = b2 → (∀ j, T2.testBit j = (T.testBit j || (decide (j = i) && b1) || (decide (j = i + 1) && b2))) → ∀ j, T2.testBit j = ((decide (j < i + 1) && (sb q P r k j && q j == 42)) || (match j with | 0 => false | c + 1 => decide (c < i + 1) && (sb q P r k c && (!(q c == 42) && (q c == 63 || q c == sg (dg r k)))))) := by
        intro b1 b2 T2 h3 h4 h5 j
        rw [h5 j, hb j]
        cases j with
        | zero =>
          by_cases h0 : i = 0
          · subst h0; simp [h3]
          · have : (0 < i) := by omega
            have e3 : decide (0 = i) = false := by simp; omega
            simp [this, e3]
        | succ c =>
          by_cases e1 : c + 1 = i
          · have e2 : c < i := by omega
            have e3 : ¬ c + 1 < i := by omega
            have e4 : c + 1 < i + 1 := by omega
            have e5 : ¬ c = i := by omega
            have e6 : c < i + 1 := by omega
            simp [e1, e2, e5, e6, h3, Bool.or_comm]
          · by_cases e2 : c = i
            · subst e2
              have e3 : ¬ c + 1 < c := by omega
              simp [h4]; intro h; omega
            · have e3 : (c < i + 1) ↔ (c < i) := by omega
              have e4 : (c + 1 < i + 1) ↔ (c + 1 < i) := by omega
              simp [e1, e2, e3, e4]
      cases hsb : sb q P r k i with
      | false =>
        rw [if_pos (show nI (if false = true then 1 else 0) = nI 0 from rfl)]
        exact ih (i + 1) T (by omega) (by omega) hT (step false false T (by rw [hsb]; rfl) (by rw [hsb]; rfl) (fun j => by simp))
      | true =>
        rw [if_neg (by decide)]
        by_cases hs : q i = 42
        · rw [if_pos (show nI (q i) = 42 by rw [hs]; rfl)]
          refine ih (i + 1) _ (by omega) (by omega) (Nat.or_lt_two_pow hT hp12) (step true false _ (by rw [hsb, hs]; rfl) (by rw [hs]; simp) (fun j => ?_))
          rw [Nat.testBit_or, Nat.testBit_two_pow]
          have : decide (i = j) = decide (j = i) := by simp [eq_comm]
          simp [this]
        · have hbq : (q i == 42) = false := by simp [hs]
          rw [if_neg (show ¬ nI (q i) = 42 from fun z => hs ((nI_eq (b := 42) (by omega) (by decide)).mp z))]
          have yes : (q i == 63 || q i == sg (dg r k)) = true → ∃ T', fX12_meets_27 N f (nI p) (nI x) rc K (nI S) (nI (k + 1)) (nI (T ||| 2 ^ (i + 1))) (nI (i + 1)) = rc (nI T') (nI (k + 2)) ∧ T' < 2 ^ 13 ∧ ∀ j, j ≤ P → T'.testBit j = sb q P r (k + 1) j := fun hy => by
            refine ih (i + 1) _ (by omega) (by omega) (Nat.or_lt_two_pow hT hp13) (step false true _ (by rw [hbq]; simp) (by rw [hsb, hbq, hy]; rfl) (fun j => ?_))
            rw [Nat.testBit_or, Nat.testBit_two_pow]
            have : decide (i + 1 = j) = decide (j = i + 1) := by simp [eq_comm]
            simp [this]
          by_cases h63 : q i = 63
          · rw [if_pos (show nI (q i) = 63 by rw [h63]; rfl)]
            exact yes (by simp [h63])
          · rw [if_neg (show ¬ nI (q i) = 63 from fun z => h63 ((nI_eq (b := 63) (by omega) (by decide)).mp z))]
            by_cases hm : q i = sg (dg r k)
            · rw [if_pos (by rw [hm])]
              exact yes (by simp [hm])
            · rw [if_neg (fun z => hm ((nI_eq (by omega) (by omega)).mp z))]
              exact ih (i + 1) T (by omega) (by omega) hT (step false false T (by rw [hbq]; simp) (by simp [h63, hm]) (fun j => by simp))
theorem e12_meets_10 {N P p x r : Nat} {f : Nat → Int32} {q : Nat → Nat} (hN : 1000 ≤ N) (hp : p + 14 ≤ 5228) (hq : PT q P) (hf : PA f p q P) (hw : WA f x r) (hx : x + 8 ≤ 5228) (hl : ln r ≤ 7) : ∀ K k S, k ≤ ln r → ln r + 1 ≤ K + k → S < 2 ^ 13 → (∀ j, j ≤ P → S.testBit j = sb q P r k j) → fX12_meets_10 N f (nI p) (nI x) K (nI S) (nI (k + 1)) = some (if mt q P r then 1 else 0) := by
  have hP12 := hq.2.1
  intro K
  induction K with
  | zero => intro k S h1 h2; omega
  | succ K ih =>
    intro k S h1 h2 hS hSb
    rw [fX12_meets_10, gi (by omega) (by decide), nI_clamp (by omega), hw.1]
    by_cases hk : ln r < k + 1
    · rw [if_pos (nI_lt hk (by omega)), gi (by omega) (by decide), nI_clamp (by omega), hf.1, bitI (by omega) (by omega), hSb P (Nat.le_refl P)]
      have e : sb q P r k P = mt q P r := by unfold sb mt; rw [if_neg (fun z => by omega), show k = ln r by omega]
      rw [e]
      cases mt q P r <;> rfl
    · rw [if_neg (nI_nlt (by omega) (by omega)), show (0 : Int32) = nI 0 from rfl]
      obtain ⟨T', a1, a2, a3⟩ := e12_meets_27 (fX12_meets_10 N f (nI p) (nI x) K) hN hp hq hf hw hx hl (show k < ln r by omega) hS hSb N 0 0 (by omega) (by omega) (by decide) (fun j => by cases j <;> simp)
      rw [a1]
      exact ih (k + 1) T' (by omega) (by omega) a2 a3
/-- the model's meets -/
theorem e12_meets {N P p x r : Nat} {f : Nat → Int32} {q : Nat → Nat} (hN : 1000 ≤ N) (hp : p + 14 ≤ 5228) (hq : PT q P) (hf : PA f p q P) (hw : WA f x r) (hx : x + 8 ≤ 5228) (hl : ln r ≤ 7) : fX12_meets N f (nI p) (nI x) = some (if mt q P r then 1 else 0) := by
  unfold fX12_meets
  obtain ⟨T', a1, a2, a3⟩ := e12_goesOn (T := 1) hN hp hq hf (by decide)
  rw [show (1 : Int32) = nI 1 from rfl, a1, Option.bind_some]
  refine e12_meets_10 hN hp hq hf hw hx hl N 0 T' (by omega) (by omega) a2 (fun j hj => ?_)
  rw [a3 j hj, ← sb_0 j hj]
  exact cl_cong j (fun c hc => by
    rw [show (1 : Nat) = 2 ^ 0 by rfl, Nat.testBit_two_pow]
    simp [eq_comm])
