/-! ===== the tape ===== -/
def TC (g : Nat → Int32) (t : Nat → Nat) (n : Nat) : Prop := ∀ i, i < n → t i < 256 ∧ g i = (nI (t i)).toInt8.toInt32
def TM (h : Nat → Int32) (t : Nat → Nat) (n : Nat) : Prop := ∀ i, i < n → h i = nI (t i)
/-- byte k of an int -/
def bN (p : Int32) (k : Nat) : Nat := (p >>> (nI (24 - 8 * k) &&& 31)).toBitVec.toNat % 256
theorem bN_lt (p : Int32) (k : Nat) : bN p k < 256 := Nat.mod_lt _ (by decide)
theorem bN_and (p : Int32) (k : Nat) : (p >>> (nI (24 - 8 * k) &&& 31)) &&& 255 = nI (bN p k) := pk_and _ 8 (by decide)
theorem bN_byte (p : Int32) (k : Nat) : vp_nar .byte ((p >>> (nI (24 - 8 * k) &&& 31)).toInt8.toInt32) = (nI (bN p k)).toInt8.toInt32 := by
  rw [pk_vb, ← bN_and, fa_byte_low]
def ap (t : Nat → Nat) (s : Nat) (p : Int32) (i : Nat) : Nat := if i < s then t i else bN p (i - s)
theorem e10_append_l {N s : Nat} {p : Int32} {t : Nat → Nat} (hs : s + 4 ≤ 400) : ∀ K k g x, k ≤ 4 → 5 ≤ K + k → (k < 4 → x = nI (24 - 8 * k)) → (k = 4 → x = -8) → TC g (ap t s p) (s + k) → ∃ g', fX10_append_3 N p K x (nI (s + k)) g = some (nI (s + 4), g') ∧ TC g' (ap t s p) (s + 4) := by
  intro K
  induction K with
  | zero => intro k g x h1 h2; omega
  | succ K ih =>
    intro k g x h1 h2 hx1 hx2 hT
    rw [fX10_append_3]
    by_cases hk : k = 4
    · subst hk
      rw [hx2 rfl, if_pos (by decide)]
      exact ⟨g, rfl, hT⟩
    · have hxk := hx1 (by omega)
      rw [hxk, if_neg (nI_pos (by omega)), if_neg (show ¬ Int32.ofNat 400 ≤ nI (s + k) from nI_ge (by omega) (by omega)), gi (by omega) (by decide), nI_clamp (by omega), nI_1, bN_byte]
      refine ih (k + 1) _ _ (by omega) (by omega) (fun h => ?_) (fun h => ?_) (fun i hi => ?_)
      · have e : nI (24 - 8 * k) + (-8) = nI (24 - 8 * (k + 1)) := by
          rcases (show k = 0 ∨ k = 1 ∨ k = 2 by omega) with rfl | rfl | rfl <;> decide
        exact e
      · rw [show k = 3 by omega]; decide
      · by_cases hi2 : i = s + k
        · subst hi2
          rw [pk_us]
          unfold ap
          rw [if_neg (by omega), show s + k - s = k by omega]
          exact ⟨bN_lt p k, rfl⟩
        · rw [pk_un hi2]; exact hT i (by omega)
theorem e10_append {N s : Nat} {p : Int32} {g : Nat → Int32} {t : Nat → Nat} (hN : 1000 ≤ N) (hs : s + 4 ≤ 400) (hT : TC g t s) : ∃ g', fX10_append N (nI s) g p = some (nI (s + 4), g') ∧ TC g' (ap t s p) (s + 4) := by
  unfold fX10_append
  refine e10_append_l hs N 0 g 24 (by omega) (by omega) (fun _ => rfl) (fun h => by omega) (fun i hi => ?_)
  unfold ap
  rw [if_pos (by omega)]
  exact hT i (by omega)
/-- which of the five -/
def pk5 (p1 p2 p3 p4 p5 : Int32) (k : Nat) : Int32 := if k < 4 then p1 else if k < 8 then p2 else if k < 12 then p3 else if k < 16 then p4 else p5
def fed (t : Nat → Nat) (n : Nat) (p1 p2 p3 p4 p5 : Int32) (i : Nat) : Nat := if i < n then t i else bN (pk5 p1 p2 p3 p4 p5 (i - n)) ((i - n) % 4)
theorem e12_feed_71 {N n k : Nat} {p1 p2 p3 p4 p5 y : Int32} {h : Nat → Int32} (rc : Int32 → Int32 → (Nat → Int32) → Option (Int32 × Int32 × (Nat → Int32))) (hn : n + k < 400) : fX12_feed_71 N p1 p2 p3 p4 p5 rc y (nI k) (nI n) h = rc (nI (k + 1)) (nI n) (upd h (n + k) (nI (bN y (k % 4)))) := by
  unfold fX12_feed_71
  have e1 : nI k &&& 3 = nI (k % 4) := fa_mask k 2
  have e2 : (8 : Int32) * nI (k % 4) = nI (8 * (k % 4)) := pk_mul 8 _
  have e3 : (24 : Int32) - nI (8 * (k % 4)) = nI (24 - 8 * (k % 4)) := pk_sub (a := 24) (by omega)
  rw [nI_add, gi (by omega) (by decide), nI_clamp (by omega), e1, e2, e3, bN_and, nI_1]
theorem e12_feed_l {N n : Nat} {p1 p2 p3 p4 p5 : Int32} {t : Nat → Nat} (hn : n + 20 ≤ 400) : ∀ K k h, k ≤ 20 → 21 ≤ K + k → TM h (fed t n p1 p2 p3 p4 p5) (n + k) → ∃ h', fX12_feed_18 N p1 p2 p3 p4 p5 K (nI k) (nI n) h = some (nI (n + 20), nI (n + 20), h') ∧ TM h' (fed t n p1 p2 p3 p4 p5) (n + 20) := by
  intro K
  induction K with
  | zero => intro k h h1 h2; omega
  | succ K ih =>
    intro k h h1 h2 hT
    rw [fX12_feed_18]
    by_cases hk : 20 ≤ k
    · rw [if_pos (show (20 : Int32) ≤ nI k from nI_le (a := 20) hk (by omega)), show nI n + 20 = nI (n + 20) from nI_add n 20]
      rw [show k = 20 by omega] at hT
      exact ⟨h, rfl, hT⟩
    · rw [if_neg (show ¬ (20 : Int32) ≤ nI k from nI_ge (b := 20) (by omega) (by decide))]
      have step : ∃ h', fX12_feed_18 N p1 p2 p3 p4 p5 K (nI (k + 1)) (nI n) (upd h (n + k) (nI (bN (pk5 p1 p2 p3 p4 p5 k) (k % 4)))) = some (nI (n + 20), nI (n + 20), h') ∧ TM h' (fed t n p1 p2 p3 p4 p5) (n + 20) := by
        refine ih (k + 1) _ (by omega) (by omega) (fun i hi => ?_)
        by_cases hi2 : i = n + k
        · subst hi2
          rw [pk_us]
          unfold fed
          rw [if_neg (by omega), show n + k - n = k by omega]
        · rw [pk_un hi2]; exact hT i (by omega)
      unfold pk5 at step
      by_cases c4 : k < 4
      · rw [if_neg (show ¬ (4 : Int32) ≤ nI k from nI_ge (b := 4) c4 (by decide)), e12_feed_71 _ (by omega)]
        rw [if_pos c4] at step; exact step
      · rw [if_pos (show (4 : Int32) ≤ nI k from nI_le (a := 4) (by omega) (by omega))]
        rw [if_neg c4] at step
        by_cases c8 : k < 8
        · rw [if_neg (show ¬ (8 : Int32) ≤ nI k from nI_ge (b := 8) c8 (by decide)), e12_feed_71 _ (by omega)]
          rw [if_pos c8] at step; exact step
        · rw [if_pos (show (8 : Int32) ≤ nI k from nI_le (a := 8) (by omega) (by omega))]
          rw [if_neg c8] at step
          by_cases c12 : k < 12
          · rw [if_neg (show ¬ (12 : Int32) ≤ nI k from nI_ge (b := 12) c12 (by decide)), e12_feed_71 _ (by omega)]
            rw [if_pos c12] at step; exact step
          · rw [if_pos (show (12 : Int32) ≤ nI k from nI_le (a := 12) (by omega) (by omega))]
            rw [if_neg c12] at step
            by_cases c16 : k < 16
            · rw [if_neg (show ¬ (16 : Int32) ≤ nI k from nI_ge (b := 16) c16 (by decide)), e12_feed_71 _ (by omega)]
              rw [if_pos c16] at step; exact step
            · rw [if_pos (show (16 : Int32) ≤ nI k from nI_le (a := 16) (by omega) (by omega)), e12_feed_71 _ (by omega)]
              rw [if_neg c16] at step; exact step
/-- promise 2 -/
theorem op_feed {N n : Nat} {g h : Nat → Int32} {t : Nat → Nat} (p1 p2 p3 p4 p5 : Int32) (hN : 1000 ≤ N) (hn : n ≤ 400) (hC : TC g t n) (hM : TM h t n) : ∃ r n' g' h' t', fX11_feed N (nI n) g p1 p2 p3 p4 p5 = some (r, nI n', g') ∧ fX12_feed N (nI n) h p1 p2 p3 p4 p5 = some (r, nI n', h') ∧ n' ≤ 400 ∧ TC g' t' n' ∧ TM h' t' n' := by
  unfold fX11_feed fX12_feed fX10_size
  rw [Option.bind_some, show nI n + 20 = nI (n + 20) from nI_add n 20]
  by_cases h20 : n + 20 ≤ 400
  · rw [if_pos (show nI (n + 20) ≤ 400 from nI_le (b := 400) h20 (by decide)), if_pos (show nI (n + 20) ≤ 400 from nI_le (b := 400) h20 (by decide))]
    obtain ⟨g1, a1, b1⟩ := e10_append (p := p1) hN (by omega) hC
    obtain ⟨g2, a2, b2⟩ := e10_append (p := p2) hN (by omega) b1
    obtain ⟨g3, a3, b3⟩ := e10_append (p := p3) hN (by omega) b2
    obtain ⟨g4, a4, b4⟩ := e10_append (p := p4) hN (by omega) b3
    obtain ⟨g5, a5, b5⟩ := e10_append (p := p5) hN (by omega) b4
    rw [a1, Option.bind_some]
    dsimp only
    rw [a2, Option.bind_some]
    dsimp only
    rw [a3, Option.bind_some]
    dsimp only
    rw [a4, Option.bind_some]
    dsimp only
    rw [a5, Option.bind_some]
    dsimp only
    rw [Option.bind_some]
    obtain ⟨h', c1, c2⟩ := e12_feed_l (N := N) (p1 := p1) (p2 := p2) (p3 := p3) (p4 := p4) (p5 := p5) (t := t) h20 N 0 h (by omega) (by omega) (fun i hi => by unfold fed; rw [if_pos (by omega)]; exact hM i (by omega))
    refine ⟨_, n + 20, g5, h', fed t n p1 p2 p3 p4 p5, rfl, c1, by omega, fun i hi => ?_, c2⟩
    have hb := b5 i hi
    have he : ap (ap (ap (ap (ap t n p1) (n + 4) p2) (n + 4 + 4) p3) (n + 4 + 4 + 4) p4) (n + 4 + 4 + 4 + 4) p5 i = fed t n p1 p2 p3 p4 p5 i := by
      unfold ap fed pk5
      by_cases h0 : i < n
      · rw [if_pos (by omega), if_pos (by omega), if_pos (by omega), if_pos (by omega), if_pos h0, if_pos h0]
      · by_cases c4 : i - n < 4
        · have a1 : i < n + 4 := by omega
          have a2 : i < n + 4 + 4 := by omega
          have a3 : i < n + 4 + 4 + 4 := by omega
          have a4 : i < n + 4 + 4 + 4 + 4 := by omega
          simp only [h0, c4, a1, a2, a3, a4, if_true, if_false]
          rw [Nat.mod_eq_of_lt c4]
        · by_cases c8 : i - n < 8
          · have a1 : ¬ i < n + 4 := by omega
            have a2 : i < n + 4 + 4 := by omega
            have a3 : i < n + 4 + 4 + 4 := by omega
            have a4 : i < n + 4 + 4 + 4 + 4 := by omega
            simp only [h0, c4, c8, a1, a2, a3, a4, if_true, if_false]
            rw [show i - (n + 4) = (i - n) % 4 by omega]
          · by_cases c12 : i - n < 12
            · have a1 : ¬ i < n + 4 := by omega
              have a2 : ¬ i < n + 4 + 4 := by omega
              have a3 : i < n + 4 + 4 + 4 := by omega
              have a4 : i < n + 4 + 4 + 4 + 4 := by omega
              simp only [h0, c4, c8, c12, a2, a3, a4, if_true, if_false]
              rw [show i - (n + 4 + 4) = (i - n) % 4 by omega]
            · by_cases c16 : i - n < 16
              · have a3 : ¬ i < n + 4 + 4 + 4 := by omega
                have a4 : i < n + 4 + 4 + 4 + 4 := by omega
                simp only [h0, c4, c8, c12, c16, a3, a4, if_true, if_false]
                rw [show i - (n + 4 + 4 + 4) = (i - n) % 4 by omega]
              · have a4 : ¬ i < n + 4 + 4 + 4 + 4 := by omega
                simp only [h0, c4, c8, c12, c16, a4, if_false]
                rw [show i - (n + 4 + 4 + 4 + 4) = (i - n) % 4 by omega]
    rw [← he]; exact hb
  · rw [if_neg (show ¬ nI (n + 20) ≤ 400 from nI_ge (b := n + 20) (a := 400) (by omega) (by omega)), if_neg (show ¬ nI (n + 20) ≤ 400 from nI_ge (b := n + 20) (a := 400) (by omega) (by omega))]
    exact ⟨-1, n, g, h, t, rfl, rfl, hn, hC, hM⟩
/-- promise 3 -/
theorem op_end {n : Nat} (x : Int32) (hn : n ≤ 400) : ∃ r n', fX11_end (nI n) x = some (r, nI n') ∧ fX12_end (nI n) x = some (r, nI n') ∧ n' ≤ n := by
  unfold fX11_end fX12_end fX10_shorten fX12_isIn
  by_cases h0 : x < 0
  · rw [if_pos h0, if_pos h0]
    exact ⟨-1, n, rfl, rfl, Nat.le_refl n⟩
  · rw [if_neg h0, if_neg h0]
    obtain ⟨k, hk, rfl⟩ := nI_of h0
    by_cases hkn : k ≤ n
    · rw [if_pos (nI_le hkn (by omega)), if_neg (nI_nlt hkn (by omega))]
      exact ⟨nI k, k, rfl, rfl, hkn⟩
    · rw [if_neg (nI_ge (by omega) hk), if_pos (nI_lt (by omega) hk)]
      exact ⟨-1, n, rfl, rfl, Nat.le_refl n⟩
/-- promise 6 -/
theorem op_fault (a b x : Int32) : ∃ r, fX11_fault a b x = some r ∧ fX12_fault a b x = some r := by
  unfold fX11_fault fX12_fault
  by_cases h0 : x = 0
  · simp only [h0, if_true]; exact ⟨_, rfl, rfl⟩
  · by_cases h1 : x = 1
    · simp only [h0, h1, if_true, if_false]; exact ⟨_, rfl, rfl⟩
    · simp only [h0, h1, if_false]; exact ⟨_, rfl, rfl⟩
