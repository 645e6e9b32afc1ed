/-! ===== sets of words as bits ===== -/
theorem e0_bit {w : Nat} (h : w < 40) : fX0_bit (nI w) = some (lN (2 ^ w)) := by
  unfold fX0_bit
  rw [if_neg (nI_pos (by omega)), if_pos (show nI w < 40 from nI_lt (b := 40) h (by decide)), show (1 : Int64) = lN 1 from rfl, shlL 1 (by omega), Nat.one_mul]
theorem e0_has {S w : Nat} (h : w < 40) : fX0_has (lN S) (nI w) = some (if S.testBit w then 1 else 0) := by
  unfold fX0_has
  rw [e0_bit h, Option.bind_some]
  have e : (lg_cmp (lN S &&& lN (2 ^ w)) 0 = 0) ↔ S.testBit w = false := by rw [lg_cmp_eq]; exact fb_bitL (by omega)
  cases hb : S.testBit w with
  | false => rw [if_pos (e.mpr hb)]; rfl
  | true => rw [if_neg (fun q => by rw [e.mp q] at hb; cases hb)]; rfl
/-- the k-th that has it, from w on, c before -/
def srch (p : Nat → Bool) (k : Int32) : Nat → Nat → Nat → Int32
  | 0, _, _ => -1
  | d + 1, w, c => if p w then (if nI c = k then nI w else srch p k d (w + 1) (c + 1)) else srch p k d (w + 1) c
theorem srch_none {p : Nat → Bool} {k : Int32} : ∀ d w c, (∀ j, w ≤ j → j < w + d → p j = false) → srch p k d w c = -1
  | 0, _, _, _ => rfl
  | d + 1, w, c, h => by
    rw [srch, if_neg (by rw [h w (Nat.le_refl w) (by omega)]; decide)]
    exact srch_none d (w + 1) c (fun j h1 h2 => h j (by omega) (by omega))
theorem srch_more {p : Nat → Bool} {k : Int32} {e : Nat} : ∀ d w c, (∀ j, w + d ≤ j → j < w + d + e → p j = false) → srch p k (d + e) w c = srch p k d w c
  | 0, w, c, h => by rw [Nat.zero_add]; exact srch_none e w c (fun j h1 h2 => h j (by omega) (by omega))
  | d + 1, w, c, h => by
    rw [show d + 1 + e = (d + e) + 1 by omega, srch, srch]
    split
    · split
      · rfl
      · exact srch_more d (w + 1) (c + 1) (fun j h1 h2 => h j (by omega) (by omega))
    · exact srch_more d (w + 1) c (fun j h1 h2 => h j (by omega) (by omega))
theorem srch_cong {p q : Nat → Bool} {k : Int32} : ∀ d w c, (∀ j, w ≤ j → j < w + d → p j = q j) → srch p k d w c = srch q k d w c
  | 0, _, _, _ => rfl
  | d + 1, w, c, h => by
    rw [srch, srch, h w (Nat.le_refl w) (by omega), srch_cong d (w + 1) (c + 1) (fun j h1 h2 => h j (by omega) (by omega)), srch_cong d (w + 1) c (fun j h1 h2 => h j (by omega) (by omega))]
theorem e0_numberOf_l (N : Nat) {S : Nat} (k : Int32) : ∀ K w c, w ≤ 40 → 41 ≤ K + w → fX0_numberOf_5 N (lN S) k K (nI c) (nI w) = some (srch S.testBit k (40 - w) w c) := by
  intro K
  induction K with
  | zero => intro w c h1 h2; omega
  | succ K ih =>
    intro w c h1 h2
    rw [fX0_numberOf_5]
    by_cases h : 40 ≤ w
    · rw [if_pos (show (40 : Int32) ≤ nI w from nI_le (a := 40) h (by omega)), show 40 - w = 0 by omega]; rfl
    · rw [if_neg (show ¬ (40 : Int32) ≤ nI w from nI_ge (b := 40) (by omega) (by decide)), e0_has (by omega), Option.bind_some, nI_1, nI_1, show 40 - w = (40 - (w + 1)) + 1 by omega, srch, ih (w + 1) c (by omega) (by omega), ih (w + 1) (c + 1) (by omega) (by omega)]
      cases S.testBit w with
      | false => rfl
      | true =>
        rw [if_neg (by decide), if_pos rfl]
        split <;> rfl
theorem e0_numberOf {N S : Nat} (k : Int32) (hN : 41 ≤ N) : fX0_numberOf N (lN S) k = some (srch S.testBit k 40 0 0) := by
  unfold fX0_numberOf
  exact e0_numberOf_l N k N 0 0 (by omega) (by omega)
/-! ===== Long.bitCount of a set ===== -/
theorem and256 (x y : Nat) : x &&& y = (x % 256 &&& y % 256) + 256 * (x / 256 &&& y / 256) := by
  have h := Nat.div_add_mod (x &&& y) 256
  have h1 : (x &&& y) % 256 = x % 256 &&& y % 256 := Nat.and_mod_two_pow (n := 8)
  have h2 : (x &&& y) / 256 = x / 256 &&& y / 256 := by
    have e : ∀ z : Nat, z / 256 = z >>> 8 := fun z => (Nat.shiftRight_eq_div_pow z 8).symm
    rw [e, e, e, Nat.shiftRight_and_distrib]
  omega
def Mk (m : Nat) : Nat → Nat
  | 0 => 0
  | n + 1 => m + 256 * Mk m n
theorem and_Mk {m n lo hi : Nat} (hm : m < 256) (hlo : lo < 256) : (lo + 256 * hi) &&& Mk m (n + 1) = (lo &&& m) + 256 * (hi &&& Mk m n) := by
  rw [and256, Mk, show (lo + 256 * hi) % 256 = lo by omega, show (lo + 256 * hi) / 256 = hi by omega, show (m + 256 * Mk m n) % 256 = m by omega, show (m + 256 * Mk m n) / 256 = Mk m n by omega]
def g1 (b : Nat) : Nat := b - (b / 2 &&& 85)
def g2 (b : Nat) : Nat := (b &&& 51) + (b / 4 &&& 51)
def g3 (b : Nat) : Nat := b % 16 + b / 16
def q1 (n x : Nat) : Nat := x - (x / 2 &&& Mk 85 n)
def q2 (n x : Nat) : Nat := (x &&& Mk 51 n) + (x / 4 &&& Mk 51 n)
def q3 (n x : Nat) : Nat := (x + x / 16) &&& Mk 15 n
theorem b85 : ∀ lo, lo < 128 → (lo + 128) &&& 85 = lo &&& 85 := by decide
theorem b51 : ∀ lo, lo < 64 → ∀ c, c < 4 → (lo + 64 * c) &&& 51 = lo &&& 51 := by decide
theorem q1_s {n lo hi : Nat} (h : lo < 256) : q1 (n + 1) (lo + 256 * hi) = g1 lo + 256 * q1 n hi := by
  unfold q1 g1
  rw [show (lo + 256 * hi) / 2 = (lo / 2 + 128 * (hi % 2)) + 256 * (hi / 2) by omega, and_Mk (by decide) (by omega)]
  have e : (lo / 2 + 128 * (hi % 2)) &&& 85 = lo / 2 &&& 85 := by
    rcases (show hi % 2 = 0 ∨ hi % 2 = 1 by omega) with q | q <;> rw [q]
    · rfl
    · exact b85 _ (by omega)
  rw [e]
  have l1 : lo / 2 &&& 85 ≤ lo / 2 := Nat.and_le_left
  have l2 : hi / 2 &&& Mk 85 n ≤ hi / 2 := Nat.and_le_left
  omega
theorem q2_s {n lo hi : Nat} (h : lo < 256) : q2 (n + 1) (lo + 256 * hi) = g2 lo + 256 * q2 n hi := by
  unfold q2 g2
  rw [show (lo + 256 * hi) / 4 = (lo / 4 + 64 * (hi % 4)) + 256 * (hi / 4) by omega, and_Mk (by decide) h, and_Mk (by decide) (show lo / 4 + 64 * (hi % 4) < 256 by omega), b51 _ (by omega) _ (by omega)]
  omega
theorem q3_s {n lo hi : Nat} (h1 : lo % 16 ≤ 4) (h2 : lo / 16 ≤ 4) (h3 : hi % 16 ≤ 4) : q3 (n + 1) (lo + 256 * hi) = g3 lo + 256 * q3 n hi := by
  unfold q3 g3
  rw [show lo + 256 * hi + (lo + 256 * hi) / 16 = (lo + lo / 16 + 16 * (hi % 16)) + 256 * (hi + hi / 16) by omega, and_Mk (by decide) (by omega)]
  have e : (lo + lo / 16 + 16 * (hi % 16)) &&& 15 = (lo + lo / 16 + 16 * (hi % 16)) % 16 := Nat.and_two_pow_sub_one_eq_mod _ 4
  rw [e]
  omega
theorem g12_ok : ∀ b, b < 256 → g1 b < 256 ∧ g2 (g1 b) < 256 ∧ g2 (g1 b) % 16 ≤ 4 ∧ g2 (g1 b) / 16 ≤ 4 ∧ g3 (g2 (g1 b)) = fb_ct b.testBit 8 ∧ fb_ct b.testBit 8 ≤ 8 := by decide +kernel
theorem pop5 {b0 b1 b2 b3 b4 : Nat} (h0 : b0 < 256) (h1 : b1 < 256) (h2 : b2 < 256) (h3 : b3 < 256) (h4 : b4 < 256) : q3 8 (q2 8 (q1 8 (b0 + 256 * (b1 + 256 * (b2 + 256 * (b3 + 256 * (b4 + 256 * 0))))))) = fb_ct b0.testBit 8 + 256 * (fb_ct b1.testBit 8 + 256 * (fb_ct b2.testBit 8 + 256 * (fb_ct b3.testBit 8 + 256 * (fb_ct b4.testBit 8)))) := by
  obtain ⟨a0, c0, d0, e0, f0, -⟩ := g12_ok b0 h0
  obtain ⟨a1, c1, d1, e1, f1, -⟩ := g12_ok b1 h1
  obtain ⟨a2, c2, d2, e2, f2, -⟩ := g12_ok b2 h2
  obtain ⟨a3, c3, d3, e3, f3, -⟩ := g12_ok b3 h3
  obtain ⟨a4, c4, d4, e4, f4, -⟩ := g12_ok b4 h4
  have z1 : q1 3 0 = 0 := by decide
  have z2 : q2 3 0 = 0 := by decide
  have z3 : q3 3 0 = 0 := by decide
  rw [q1_s h0, q1_s h1, q1_s h2, q1_s h3, q1_s h4, z1, q2_s a0, q2_s a1, q2_s a2, q2_s a3, q2_s a4, z2]
  rw [q3_s d0 e0 (by omega), q3_s d1 e1 (by omega), q3_s d2 e2 (by omega), q3_s d3 e3 (by omega), q3_s d4 e4 (by omega), z3, f0, f1, f2, f3, f4, Nat.mul_zero, Nat.add_zero]
theorem ct40 {S : Nat} (h : S < 1099511627776) : fb_ct S.testBit 40 = fb_ct (S % 256).testBit 8 + (fb_ct (S / 256 % 256).testBit 8 + (fb_ct (S / 65536 % 256).testBit 8 + (fb_ct (S / 16777216 % 256).testBit 8 + fb_ct (S / 4294967296 % 256).testBit 8))) := by
  have cut : ∀ (m : Nat) (T : Nat), fb_ct T.testBit (8 + m) = fb_ct (T % 256).testBit 8 + fb_ct (T / 256).testBit m := fun m T => by
    rw [fb_ct_split]
    congr 1
    · exact fb_ct_cong (fun k hk => by rw [show (256 : Nat) = 2 ^ 8 by decide, Nat.testBit_mod_two_pow]; simp [hk])
    · exact fb_ct_cong (fun k _ => by rw [show (256 : Nat) = 2 ^ 8 by decide, Nat.testBit_div_two_pow, Nat.add_comm])
  rw [show (40 : Nat) = 8 + (8 + (8 + (8 + (8 + 0)))) by decide, cut, cut, cut, cut, cut, Nat.div_div_eq_div_mul, Nat.div_div_eq_div_mul, Nat.div_div_eq_div_mul]
  rfl
theorem sum5 {c0 c1 c2 c3 c4 : Nat} (h0 : c0 ≤ 8) (h1 : c1 ≤ 8) (h2 : c2 ≤ 8) (h3 : c3 ≤ 8) (h4 : c4 ≤ 8) (T T1 T2 : Nat) (e : T = c0 + 256 * (c1 + 256 * (c2 + 256 * (c3 + 256 * c4)))) (e1 : T1 = T + T / 256) (e2 : T2 = T1 + T1 / 65536) : (T2 + T2 / 4294967296) % 128 = c0 + (c1 + (c2 + (c3 + c4))) := by
  have f1 : T / 256 = c1 + 256 * (c2 + 256 * (c3 + 256 * c4)) := by omega
  have f2 : T1 = (c0 + c1) + 256 * ((c1 + c2) + 256 * ((c2 + c3) + 256 * ((c3 + c4) + 256 * c4))) := by omega
  have f3 : T1 / 65536 = (c2 + c3) + 256 * ((c3 + c4) + 256 * c4) := by omega
  have f4 : T2 = (c0 + c1 + c2 + c3) + 256 * ((c1 + c2 + c3 + c4) + 256 * ((c2 + c3 + c4) + 256 * ((c3 + c4) + 256 * c4))) := by omega
  have f5 : T2 / 4294967296 = c4 := by omega
  omega
theorem ushr1 {n : Nat} (k : Nat) (hn : n < 2 ^ 64) (hk : k < 64) {x : Int32} (hx : x = nI k) : (Int64.toUInt64 (lN n) >>> ((Int32.toInt64 x).toUInt64 &&& Int64.toUInt64 63)).toInt64 = lN (n / 2 ^ k) := by
  subst hx; exact wb_shr hn hk
theorem e_bitCount {S : Nat} (h : S < 1099511627776) : fJ13_bitCount_95d88 (lN S) = some (nI (fb_ct S.testBit 40)) := by
  unfold fJ13_bitCount_95d88
  have t1 : lN S - ((Int64.toUInt64 (lN S) >>> ((Int32.toInt64 (1 : Int32)).toUInt64 &&& Int64.toUInt64 63)).toInt64 &&& (6148914691236517205 : Int64)) = lN (q1 8 S) := by
    rw [ushr1 (n := S) (x := 1) 1 (by omega) (by decide) rfl, show (6148914691236517205 : Int64) = lN (Mk 85 8) from rfl, fb_andL, lN_sub (Nat.le_trans Nat.and_le_left (by omega))]
    rfl
  rw [t1]
  have b1 : q1 8 S ≤ S := Nat.sub_le _ _
  have hS5 : S = S % 256 + 256 * (S / 256 % 256 + 256 * (S / 65536 % 256 + 256 * (S / 16777216 % 256 + 256 * (S / 4294967296 % 256 + 256 * 0)))) := by omega
  have hpop := pop5 (b0 := S % 256) (b1 := S / 256 % 256) (b2 := S / 65536 % 256) (b3 := S / 16777216 % 256) (b4 := S / 4294967296 % 256) (by omega) (by omega) (by omega) (by omega) (by omega)
  rw [← hS5] at hpop
  generalize q1 8 S = A at b1 hpop ⊢
  have t2 : (lN A &&& (3689348814741910323 : Int64)) + ((Int64.toUInt64 (lN A) >>> ((Int32.toInt64 (2 : Int32)).toUInt64 &&& Int64.toUInt64 63)).toInt64 &&& (3689348814741910323 : Int64)) = lN (q2 8 A) := by
    rw [ushr1 (n := A) (x := 2) 2 (by omega) (by decide) rfl, show (3689348814741910323 : Int64) = lN (Mk 51 8) from rfl, fb_andL, fb_andL, lN_add]
    rfl
  rw [t2]
  have b2 : q2 8 A ≤ 2 * A := by
    unfold q2
    have x1 : A &&& Mk 51 8 ≤ A := Nat.and_le_left
    have x2 : A / 4 &&& Mk 51 8 ≤ A / 4 := Nat.and_le_left
    omega
  generalize q2 8 A = B at b2 hpop ⊢
  have t3 : (lN B + (Int64.toUInt64 (lN B) >>> ((Int32.toInt64 (4 : Int32)).toUInt64 &&& Int64.toUInt64 63)).toInt64) &&& (1085102592571150095 : Int64) = lN (q3 8 B) := by
    rw [ushr1 (n := B) (x := 4) 4 (by omega) (by decide) rfl, lN_add, show (1085102592571150095 : Int64) = lN (Mk 15 8) from rfl, fb_andL]
    rfl
  rw [t3, hpop]
  obtain ⟨-, -, -, -, -, k0⟩ := g12_ok (S % 256) (by omega)
  obtain ⟨-, -, -, -, -, k1⟩ := g12_ok (S / 256 % 256) (by omega)
  obtain ⟨-, -, -, -, -, k2⟩ := g12_ok (S / 65536 % 256) (by omega)
  obtain ⟨-, -, -, -, -, k3⟩ := g12_ok (S / 16777216 % 256) (by omega)
  obtain ⟨-, -, -, -, -, k4⟩ := g12_ok (S / 4294967296 % 256) (by omega)
  rw [ct40 h]
  generalize fb_ct (S % 256).testBit 8 = c0 at *
  generalize fb_ct (S / 256 % 256).testBit 8 = c1 at *
  generalize fb_ct (S / 65536 % 256).testBit 8 = c2 at *
  generalize fb_ct (S / 16777216 % 256).testBit 8 = c3 at *
  generalize fb_ct (S / 4294967296 % 256).testBit 8 = c4 at *
  obtain ⟨T, hT⟩ : ∃ T, T = c0 + 256 * (c1 + 256 * (c2 + 256 * (c3 + 256 * c4))) := ⟨_, rfl⟩
  rw [← hT]
  have bT : T < 2 ^ 40 := by omega
  rw [ushr1 (n := T) (x := 8) 8 (by omega) (by decide) rfl, lN_add]
  obtain ⟨T1, hT1⟩ : ∃ T1, T1 = T + T / 256 := ⟨_, rfl⟩
  rw [show T + T / 2 ^ 8 = T1 from hT1.symm, ushr1 (n := T1) (x := 16) 16 (by omega) (by decide) rfl, lN_add]
  obtain ⟨T2, hT2⟩ : ∃ T2, T2 = T1 + T1 / 65536 := ⟨_, rfl⟩
  rw [show T1 + T1 / 2 ^ 16 = T2 from hT2.symm, ushr1 (n := T2) (x := 32) 32 (by omega) (by decide) rfl, lN_add, lN_i, show (127 : Int32) = nI (2 ^ 7 - 1) from rfl, fa_mask]
  rw [show (T2 + T2 / 2 ^ 32) % 2 ^ 7 = c0 + (c1 + (c2 + (c3 + c4))) from sum5 k0 k1 k2 k3 k4 T T1 T2 hT hT1 hT2]
