theorem ib0 {b : Bool} : ((if b then (1 : Int32) else 0) = 0) ↔ b = false := by cases b <;> decide
/-- a pattern is met by a word -/
def mt (q : Nat → Nat) (P r : Nat) : Bool := rm q r P (ln r)
/-- the pattern as it lies in the class -/
def SA (g : Nat → Int32) (q : Nat → Nat) (P : Nat) : Prop := ∀ i, i < P → g i = nI (q i)
theorem e5_54 {N n M : Nat} {v : Int32} {g : Nat → Int32} {x : Int64} (hn : n ≤ 7) : fX5_isMetBy_54 N v g x (nI (2 ^ n)) (nI M) = some (if M.testBit n then 1 else 0) := by
  unfold fX5_isMetBy_54
  cases hb : M.testBit n with
  | false => rw [if_pos ((fa_bit (by omega)).mpr hb)]; rfl
  | true => rw [if_neg (fun z => by rw [(fa_bit (by omega)).mp z] at hb; cases hb)]; rfl
theorem e5_isMetBy_l {N P r : Nat} {g : Nat → Int32} {q : Nat → Nat} (hN : 9 ≤ N) (hr : r < 1099511627776) (hn : ln r ≤ 7) (hq : PT q P) (hg : SA g q P) : ∀ K i M, i ≤ P → P + 1 ≤ K + i → M < 256 → (∀ k, k ≤ ln r → M.testBit k = rm q r i k) → fX5_isMetBy_13 N (nI P) g (lN r) K (nI (2 ^ ln r)) (nI M) (nI i) = some (if mt q P r then 1 else 0) := by
  obtain ⟨hP1, hP12, hqs⟩ := hq
  intro K
  induction K with
  | zero => intro i M h1 h2; omega
  | succ K ih =>
    intro i M h1 h2 hM hb
    rw [fX5_isMetBy_13, e5_54 hn]
    by_cases hi : P ≤ i
    · rw [if_pos (nI_le hi (by omega)), hb _ (Nat.le_refl _), show i = P by omega]; rfl
    · rw [if_neg (nI_ge (by omega) (by omega))]
      by_cases hz : M = 0
      · subst hz
        rw [if_pos (show nI 0 = 0 from rfl)]
        have hd := rm_dead (n := ln r) (i := i) (fun k hk => (hb k hk).symm.trans (Nat.zero_testBit k)) (P - i) (ln r) (Nat.le_refl _)
        rw [show i + (P - i) = P by omega] at hd
        unfold mt
        rw [hd, Nat.zero_testBit]
      · rw [if_neg (fun z => hz ((n0 (by omega)).mp z)), gi (by omega) (by decide), nI_clamp (by omega), hg i (by omega)]
        obtain ⟨z, M', a1, a2, a3, a4, a5⟩ := e5_madeWith (N := N) (n := ln r) hN hr hn hM hb (hqs i (by omega))
        have hp : 2 ^ (ln r) ≤ 2 ^ 7 := Nat.pow_le_pow_right (by decide) hn
        have hp0 : 0 < 2 ^ ln r := Nat.pow_pos (by decide)
        have e1 : (2 : Int32) * nI (2 ^ ln r) = nI (2 * 2 ^ ln r) := pk_mul 2 _
        have e2 : nI (2 * 2 ^ ln r) - 1 = nI (2 ^ (ln r + 1) - 1) := (pk_sub (b := 1) (by omega)).trans (by rw [Nat.pow_succ, Nat.mul_comm])
        rw [a1, Option.bind_some, e1, e2, a2, nI_1]
        exact ih (i + 1) M' (by omega) (by omega) a3 a5
/-- Pattern.isMetBy -/
theorem e5_isMetBy {N P r : Nat} {g : Nat → Int32} {q : Nat → Nat} (hN : 1000 ≤ N) (hw : isW r) (hq : PT q P) (hg : SA g q P) : fX5_isMetBy N (nI P) g (lN r) = some (if mt q P r then 1 else 0) := by
  unfold fX5_isMetBy
  have h7 := hw.2.2.1
  rw [e8_length (by omega) hw.1, Option.bind_some, shlI1 (by omega)]
  have h12 := hq.2.1
  refine e5_isMetBy_l (by omega) hw.1 h7 hq hg N 0 1 (by omega) (by omega) (by decide) (fun k hk => ?_)
  rw [rm]
  by_cases h : k = 0
  · subst h; rfl
  · rw [show (1 : Nat) = 2 ^ 0 by rfl, Nat.testBit_two_pow]; simp; omega
/-- a set of numbers below n, as bits -/
def bs (p : Nat → Bool) : Nat → Nat
  | 0 => 0
  | n + 1 => bs p n ||| (if p n then 2 ^ n else 0)
theorem bs_lt (p : Nat → Bool) : ∀ n, bs p n < 2 ^ n
  | 0 => by simp [bs]
  | n + 1 => by
    rw [bs]
    refine Nat.or_lt_two_pow (Nat.lt_trans (bs_lt p n) (Nat.pow_lt_pow_right (by decide) (by omega))) ?_
    split
    · exact Nat.pow_lt_pow_right (by decide) (by omega)
    · exact Nat.pow_pos (by decide)
theorem bs_bit (p : Nat → Bool) : ∀ n j, (bs p n).testBit j = (decide (j < n) && p j)
  | 0, j => by simp [bs]
  | n + 1, j => by
    rw [bs, Nat.testBit_or, bs_bit p n j]
    by_cases hj : j = n
    · subst hj
      cases hp : p j with
      | false => simp
      | true => simp
    · have e : (j < n + 1) ↔ (j < n) := by omega
      have h2 : (if p n = true then 2 ^ n else 0).testBit j = false := by
        split
        · rw [Nat.testBit_two_pow]; simp; omega
        · exact Nat.zero_testBit _
      rw [h2, Bool.or_false]; simp [e]
theorem bs_lt40 {p : Nat → Bool} {m : Nat} (hm : m ≤ 40) : bs p m < 1099511627776 := Nat.lt_of_lt_of_le (bs_lt p m) (Nat.pow_le_pow_right (by decide) hm)
theorem bs_count {p : Nat → Bool} {m : Nat} (hm : m ≤ 40) : fb_ct (bs p m).testBit 40 = fb_ct p m := by
  rw [show (40 : Nat) = m + (40 - m) by omega, fb_ct_split, fb_ct_cong (q := p) (fun k hk => by rw [bs_bit]; simp [hk])]
  have : fb_ct (fun k => (bs p m).testBit (m + k)) (40 - m) = 0 := fb_ct_zero.mpr (fun k hk => by rw [bs_bit]; simp; intro h; omega)
  omega
theorem bs_srch {p : Nat → Bool} {m : Nat} {k : Int32} (hm : m ≤ 40) : srch (bs p m).testBit k 40 0 0 = srch p k m 0 0 := by
  rw [show (40 : Nat) = m + (40 - m) by omega, srch_more m 0 0 (fun j h1 h2 => by rw [bs_bit]; simp; omega)]
  exact srch_cong m 0 0 (fun j h1 h2 => by rw [bs_bit]; simp; omega)
theorem e11_answersOf_l {N n m P : Nat} {g : Nat → Int64} {gs : Nat → Int32} {d q : Nat → Nat} (hN : 1000 ≤ N) (hR : Ris g d m) (hD : Dic m d) (hn : m ≤ n) (hn5 : n ≤ 511) (hq : PT q P) (hg : SA gs q P) : ∀ K w, w ≤ m → m + 1 ≤ K + w → fX11_answersOf_5 N n (nI m) g (nI P) gs K (lN (bs (fun w => mt q P (d w)) w)) (nI w) = some (lN (bs (fun w => mt q P (d w)) m)) := by
  have h40 := hD.1
  intro K
  induction K with
  | zero => intro w h1 h2; omega
  | succ K ih =>
    intro w h1 h2
    rw [fX11_answersOf_5, fX7_size, Option.bind_some]
    by_cases hw : m ≤ w
    · rw [if_pos (nI_le hw (by omega)), show w = m by omega]
    · rw [if_neg (nI_ge (by omega) (by omega)), e7_at hR hn hn5 (by omega), if_pos (by omega), Option.bind_some, e5_isMetBy hN (hD.2.2 w (by omega)) hq hg, Option.bind_some, e0_bit (by omega), Option.bind_some, fb_orL, nI_1]
      have ih' := ih (w + 1) (by omega) (by omega)
      rw [bs] at ih'
      cases hb : mt q P (d w) with
      | false => rw [hb] at ih'; rw [if_pos (ib0.mpr rfl)]; rw [if_neg (by decide), Nat.or_zero] at ih'; exact ih'
      | true => rw [hb] at ih'; rw [if_neg (by decide)]; rw [if_pos rfl] at ih'; exact ih'
theorem e11_answersOf {N n m P : Nat} {g : Nat → Int64} {gs : Nat → Int32} {d q : Nat → Nat} (hN : 1000 ≤ N) (hR : Ris g d m) (hD : Dic m d) (hn : m ≤ n) (hn5 : n ≤ 511) (hq : PT q P) (hg : SA gs q P) : fX11_answersOf N n (nI m) g (nI P) gs = some (lN (bs (fun w => mt q P (d w)) m)) := by
  have h40 := hD.1
  unfold fX11_answersOf
  exact e11_answersOf_l hN hR hD hn hn5 hq hg N 0 (by omega) (by omega)
