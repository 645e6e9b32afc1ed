/-! ===== a pattern is read ===== -/
def sB (x : Nat) : Bool := decide (x = 42 ∨ x = 63 ∨ (97 ≤ x ∧ x ≤ 122))
theorem sB_iff {x : Nat} : sB x = true ↔ (x = 42 ∨ x = 63 ∨ (97 ≤ x ∧ x ≤ 122)) := by unfold sB; rw [decide_eq_true_eq]
theorem e5_isSign {x : Nat} (h : x < 256) : fX5_isSign (nI x) = some (if sB x then 1 else 0) := by
  unfold fX5_isSign
  rw [e11_isLetter h, Option.bind_some]
  cases hl : isL x with
  | true =>
    have := isL_iff.mp hl
    rw [if_neg (by decide), sB_iff.mpr (by omega)]; rfl
  | false =>
    have hnl : ¬ (97 ≤ x ∧ x ≤ 122) := fun z => by rw [isL_iff.mpr z] at hl; cases hl
    rw [if_pos (ib0.mpr rfl)]
    by_cases h1 : x = 63
    · rw [if_pos (by rw [h1]; rfl), sB_iff.mpr (by omega)]; rfl
    · rw [if_neg (show ¬ nI x = (63 : Int32) from fun z => h1 ((nI_eq (b := 63) (by omega) (by decide)).mp z))]
      by_cases h2 : x = 42
      · rw [if_pos (by rw [h2]; rfl), sB_iff.mpr (by omega)]; rfl
      · rw [if_neg (show ¬ nI x = (42 : Int32) from fun z => h2 ((nI_eq (b := 42) (by omega) (by decide)).mp z)), show sB x = false from Bool.eq_false_iff.mpr (fun z => by have := sB_iff.mp z; omega)]; rfl
/-- the first byte that is no sign, among the first twelve -/
def bdp (t : Nat → Nat) (n : Nat) : Nat := fa_first (fun i => !sB (t i)) (min n 12)
theorem bdp_le (t : Nat → Nat) (n : Nat) : bdp t n ≤ min n 12 := fa_first_le _ _
theorem bdp_no {t : Nat → Nat} {n i : Nat} (h : i < bdp t n) : sB (t i) = true := by
  have := fa_first_no _ _ _ h
  simpa using this
theorem bdp_yes {t : Nat → Nat} {n : Nat} (h : bdp t n < min n 12) : sB (t (bdp t n)) = false := by
  have := fa_first_yes _ _ h
  unfold bdp
  simpa using this
/-- kind and place of the fault of a pattern -/
def kdp (t : Nat → Nat) (n : Nat) : Int32 × Int32 := if n = 0 then (6, 0) else if bdp t n < min n 12 then (1, nI (bdp t n)) else if 12 < n then (5, 12) else (0, -1)
theorem e6_pat_stop {N n x K : Nat} {g : Nat → Int32} {kd b : Int32} (h : ¬ kd = 0) : fX6_checkPattern_20 N (nI n) g (K + 1) (nI x) kd b = some (kd, b) := by
  rw [fX6_checkPattern_20]
  unfold fX10_size fX2_isThere
  rw [Option.bind_some, if_neg h, Option.bind_some, if_neg (show ¬ (1 : Int32) = 0 by decide), ite_self]
theorem e6_check_l {N n : Nat} {g : Nat → Int32} {t : Nat → Nat} (hn : n ≤ 400) (hT : TC g t n) (h0 : n ≠ 0) : ∀ K i, i ≤ bdp t n → n + 2 ≤ K + i → fX6_checkPattern_20 N (nI n) g K (nI i) 0 (-1) = some (kdp t n) := by
  have hle := bdp_le t n
  intro K
  induction K with
  | zero => intro i h1 h2; omega
  | succ K ih =>
    intro i h1 h2
    rw [fX6_checkPattern_20]
    unfold fX10_size fX2_isThere
    rw [Option.bind_some, if_pos rfl, Option.bind_some, if_pos rfl]
    unfold fX2_set fX2_set_15
    unfold kdp
    rw [if_neg h0]
    by_cases hi : n ≤ i
    · rw [if_pos (nI_le hi (by omega)), if_neg (by omega), if_neg (by omega)]
    · rw [if_neg (nI_ge (by omega) (by omega))]
      obtain ⟨K, rfl⟩ : ∃ K', K = K' + 1 := ⟨K - 1, by omega⟩
      by_cases h12 : i < 12
      · rw [if_pos (show nI i < (12 : Int32) from nI_lt (b := 12) h12 (by decide)), e10_at hn hT (by omega), Option.bind_some, e5_isSign (hT i (by omega)).1, Option.bind_some]
        cases hs : sB (t i) with
        | true =>
          rw [if_neg (by decide), nI_1]
          have := ih (i + 1) (by
            by_cases e : i = bdp t n
            · have := bdp_yes (t := t) (n := n) (by omega)
              rw [← e, hs] at this; cases this
            · omega) (by omega)
          unfold kdp at this
          rw [if_neg h0] at this
          exact this
        | false =>
          have e : i = bdp t n := Classical.byContradiction fun z => by
            have := bdp_no (t := t) (n := n) (i := i) (by omega)
            rw [hs] at this; cases this
          rw [if_pos (ib0.mpr rfl), if_neg (by decide), Option.bind_some, nI_1, ← e, if_pos (by omega)]
          exact e6_pat_stop (show ¬ (1 : Int32) = 0 by decide)
      · rw [if_neg (show ¬ nI i < (12 : Int32) from nI_nlt (b := 12) (by omega) (by omega)), if_neg (by decide), Option.bind_some, nI_1, if_neg (by omega), if_pos (by omega), e6_pat_stop (show ¬ (5 : Int32) = 0 by decide), show i = 12 by omega]
        rfl
theorem e6_checkPattern {N n : Nat} {g : Nat → Int32} {t : Nat → Nat} {a b : Int32} (hN : 1000 ≤ N) (hn : n ≤ 400) (hT : TC g t n) : fX6_checkPattern N (nI n) g a b = some (kdp t n) := by
  unfold fX6_checkPattern fX10_size
  rw [Option.bind_some]
  by_cases h0 : n = 0
  · rw [if_pos (by rw [h0]; rfl)]
    unfold fX6_checkPattern_14 fX2_set fX2_set_15
    obtain ⟨M, rfl⟩ : ∃ M, N = M + 1 := ⟨N - 1, by omega⟩
    rw [if_neg (by decide), Option.bind_some, show fX6_checkPattern_20 (M + 1) (nI n) g (M + 1) 0 6 0 = some (6, 0) from e6_pat_stop (x := 0) (by decide)]
    unfold kdp
    rw [if_pos h0]
  · rw [if_neg (fun z => h0 ((n0 (by omega)).mp z))]
    unfold fX6_checkPattern_14 fX2_set fX2_set_15
    rw [if_pos rfl, Option.bind_some]
    exact e6_check_l hn hT h0 N 0 (Nat.zero_le _) (by omega)
/-- the reference -/
theorem e12_pat_90 {N n : Nat} {v0 a b v1 v2 : Int32} {f h ps pf : Nat → Int32} (hn : n ≤ 400) : fX12_pattern_90 N h (nI n) v0 a b v1 v2 f ps pf = if n ≤ 12 then fX12_pattern_103 N h (nI n) v0 a b v1 v2 f ps pf else Option.bind (fX12_fails a b 5 12) fun r15 => fX12_pattern_103 N h (nI n) v0 r15.1 r15.2 v1 v2 f ps pf := by
  unfold fX12_pattern_90
  by_cases h12 : n ≤ 12
  · rw [if_pos (show nI n ≤ (12 : Int32) from nI_le (b := 12) h12 (by decide)), if_pos h12]
  · rw [if_neg (show ¬ nI n ≤ (12 : Int32) from nI_ge (a := 12) (by omega) (by omega)), if_neg h12]
theorem e12_pat_late {N n pl kd : Nat} {v0 v1 v2 : Int32} {f h ps pf : Nat → Int32} {t : Nat → Nat} (hn : n ≤ 400) (hb : ∀ i, i < n → t i < 256) (hM : TM h t n) (h1 : 1 ≤ kd) (h2 : kd < 100) (hpl : pl < 12) : ∀ K i, i ≤ 12 → i ≤ n → 14 ≤ K + i → (i < 12 → i < n → pl < i) → fX12_pattern_33 N h K (nI n) (nI i) v0 (nI kd) (nI pl) v1 v2 f ps pf = some (-1, v0, nI kd, nI pl, v1, v2, f, ps, pf) := by
  have h103 : fX12_pattern_103 N h (nI n) v0 (nI kd) (nI pl) v1 v2 f ps pf = some (-1, v0, nI kd, nI pl, v1, v2, f, ps, pf) := by
    unfold fX12_pattern_103
    rw [if_neg (show ¬ nI kd ≤ (0 : Int32) from nI_ge (a := 0) (by omega) (by omega))]
  have h90 : fX12_pattern_90 N h (nI n) v0 (nI kd) (nI pl) v1 v2 f ps pf = some (-1, v0, nI kd, nI pl, v1, v2, f, ps, pf) := by
    rw [e12_pat_90 hn, show fX12_fails (nI kd) (nI pl) 5 12 = _ from e12_fails_late (at_ := 12) h1 h2 hpl (by decide), Option.bind_some]
    dsimp only
    rw [ite_self, h103]
  intro K
  induction K with
  | zero => intro i a1 a2 a3; omega
  | succ K ih =>
    intro i a1 a2 a3 a4
    rw [fX12_pattern_33]
    by_cases hi : n ≤ i
    · rw [if_pos (nI_le hi (by omega)), h90]
    · rw [if_neg (nI_ge (by omega) (by omega))]
      by_cases h12 : 12 ≤ i
      · rw [if_pos (show (12 : Int32) ≤ nI i from nI_le (a := 12) h12 (by omega)), h90]
      · rw [if_neg (show ¬ (12 : Int32) ≤ nI i from nI_ge (b := 12) (by omega) (by omega)), gi (by omega) (by decide), gi (by omega) (by decide), gi (by omega) (by decide), nI_clamp (by omega), hM i (by omega), e12_isLetter (hb i (by omega)), Option.bind_some, e12_fails_late h1 h2 (a4 (by omega) (by omega)) (by omega), Option.bind_some, nI_1, ih (i + 1) (by omega) (by omega) (by omega) (fun z1 z2 => by have := a4 (by omega) (by omega); omega), ite_self, ite_self, ite_self]
theorem e12_pat_l {N n : Nat} {v0 v1 v2 : Int32} {f h ps pf : Nat → Int32} {t : Nat → Nat} (hn : n ≤ 400) (hb : ∀ i, i < n → t i < 256) (hM : TM h t n) (h0 : n ≠ 0) : ∀ K i, i ≤ bdp t n → 16 ≤ K + i → fX12_pattern_33 N h K (nI n) (nI i) v0 0 (-1) v1 v2 f ps pf = if (kdp t n).1 = 0 then fX12_pattern_103 N h (nI n) v0 0 (-1) v1 v2 f ps pf else some (-1, v0, (kdp t n).1, (kdp t n).2, v1, v2, f, ps, pf) := by
  have hle := bdp_le t n
  have h90 : bdp t n = min n 12 → fX12_pattern_90 N h (nI n) v0 0 (-1) v1 v2 f ps pf = if (kdp t n).1 = 0 then fX12_pattern_103 N h (nI n) v0 0 (-1) v1 v2 f ps pf else some (-1, v0, (kdp t n).1, (kdp t n).2, v1, v2, f, ps, pf) := fun hE => by
    rw [e12_pat_90 hn, e12_fails_0, Option.bind_some]
    unfold kdp
    rw [if_neg h0, if_neg (show ¬ bdp t n < min n 12 by omega)]
    by_cases h12 : n ≤ 12
    · rw [if_pos h12, if_neg (show ¬ 12 < n by omega), if_pos rfl]
    · rw [if_neg h12, if_pos (show 12 < n by omega)]
      dsimp only
      rw [if_neg (by decide)]
      unfold fX12_pattern_103
      rw [if_neg (by decide)]
  intro K
  induction K with
  | zero => intro i a1 a2; omega
  | succ K ih =>
    intro i a1 a2
    rw [fX12_pattern_33]
    by_cases hi : n ≤ i
    · rw [if_pos (nI_le hi (by omega)), h90 (by omega)]
    · rw [if_neg (nI_ge (by omega) (by omega))]
      by_cases h12 : 12 ≤ i
      · rw [if_pos (show (12 : Int32) ≤ nI i from nI_le (a := 12) h12 (by omega)), h90 (by omega)]
      · have hbi := hb i (by omega)
        rw [if_neg (show ¬ (12 : Int32) ≤ nI i from nI_ge (b := 12) (by omega) (by omega)), gi (by omega) (by decide), gi (by omega) (by decide), gi (by omega) (by decide), nI_clamp (by omega), hM i (by omega), e12_isLetter hbi, Option.bind_some, e12_fails_0, Option.bind_some, nI_1]
        have next : sB (t i) = true → i + 1 ≤ bdp t n := fun hs => by
          by_cases e : i = bdp t n
          · have := bdp_yes (t := t) (n := n) (by omega)
            rw [← e, hs] at this; cases this
          · omega
        cases hl : isL (t i) with
        | true =>
          rw [if_neg (by decide)]
          exact ih (i + 1) (next (sB_iff.mpr (Or.inr (Or.inr (isL_iff.mp hl))))) (by omega)
        | false =>
          rw [if_pos (ib0.mpr rfl)]
          by_cases h63 : t i = 63
          · rw [if_pos (by rw [h63]; rfl)]
            exact ih (i + 1) (next (sB_iff.mpr (Or.inr (Or.inl h63)))) (by omega)
          · rw [if_neg (show ¬ nI (t i) = (63 : Int32) from fun z => h63 ((nI_eq (b := 63) (by omega) (by decide)).mp z))]
            by_cases h42 : t i = 42
            · rw [if_pos (by rw [h42]; rfl)]
              exact ih (i + 1) (next (sB_iff.mpr (Or.inl h42))) (by omega)
            · rw [if_neg (show ¬ nI (t i) = (42 : Int32) from fun z => h42 ((nI_eq (b := 42) (by omega) (by decide)).mp z))]
              have e : i = bdp t n := Classical.byContradiction fun z => by
                have := sB_iff.mp (bdp_no (t := t) (n := n) (i := i) (by omega))
                have hnl : ¬ (97 ≤ t i ∧ t i ≤ 122) := fun z => by rw [isL_iff.mpr z] at hl; cases hl
                omega
              have hk : kdp t n = (1, nI (bdp t n)) := by
                unfold kdp
                rw [if_neg h0, if_pos (by omega)]
              rw [hk, ← e]
              dsimp only
              rw [if_neg (by decide)]
              exact e12_pat_late (kd := 1) (pl := i) hn hb hM (by omega) (by omega) (by omega) K (i + 1) (by omega) (by omega) (by omega) (fun _ _ => by omega)
theorem e5_take {N n : Nat} {v : Int32} {g gs : Nat → Int32} {t : Nat → Nat} (hN : 1000 ≤ N) (hn : n ≤ 12) (hT : TC g t n) : ∃ gs', fX5_take N v gs (nI n) g = some (nI n, gs') ∧ SA gs' t n := by
  have l : ∀ K i gs, i ≤ n → n + 1 ≤ K + i → (∀ j, j < i → gs j = nI (t j)) → ∃ gs', fX5_take_15 N (nI n) g K (nI i) (nI n) gs = some (nI n, gs') ∧ SA gs' t n := by
    intro K
    induction K with
    | zero => intro i gs a1 a2; omega
    | succ K ih =>
      intro i gs a1 a2 a3
      rw [fX5_take_15]
      by_cases hi : n ≤ i
      · rw [if_pos (nI_le hi (by omega))]
        exact ⟨gs, rfl, fun j hj => a3 j (by omega)⟩
      · rw [if_neg (nI_ge (by omega) (by omega)), e10_at (by omega) hT (by omega), Option.bind_some, gi (by omega) (by decide), nI_clamp (by omega), nI_1]
        exact ih (i + 1) _ (by omega) (by omega) (fun j hj => by
          by_cases e : j = i
          · rw [e, pk_us]
          · rw [pk_un e]; exact a3 j (by omega))
  unfold fX5_take fX10_size
  rw [Option.bind_some, if_neg (show ¬ (12 : Int32) < nI n from nI_nlt (a := 12) hn (by decide))]
  exact l N 0 gs (Nat.zero_le _) (by omega) (fun j hj => absurd hj (Nat.not_lt_zero j))
theorem e12_pat_123 {N n : Nat} {v0 a b v1 v2 : Int32} {h ps pf : Nat → Int32} {t : Nat → Nat} (hn : n ≤ 12) (hM : TM h t n) : ∀ K i f, i ≤ n → n + 1 ≤ K + i → (∀ j, j < i → f (431 + j) = nI (t j)) → ∃ f', fX12_pattern_123 N h K (nI n) (nI i) v0 a b v1 v2 f ps pf = (Option.bind (fX12_laysPieces N v1 v2 f' ps pf) fun r19 => some (r19.1, v0, a, b, r19.1, r19.2.1, f', r19.2.2.1, r19.2.2.2)) ∧ (∀ j, j < n → f' (431 + j) = nI (t j)) ∧ Out f f' 431 12 := by
  intro K
  induction K with
  | zero => intro i f a1 a2; omega
  | succ K ih =>
    intro i f a1 a2 a3
    rw [fX12_pattern_123]
    by_cases hi : n ≤ i
    · rw [if_pos (nI_le hi (by omega))]
      exact ⟨f, rfl, fun j hj => a3 j (by omega), Out.rf⟩
    · rw [if_neg (nI_ge (by omega) (by omega)), a431, gi (by omega) (by decide), gi (by omega) (by decide), nI_clamp (by omega), nI_clamp (by omega), hM i (by omega), nI_1]
      obtain ⟨f', b1, b2, b3⟩ := ih (i + 1) (upd f (431 + i) (nI (t i))) (by omega) (by omega) (fun j hj => by
        by_cases e : j = i
        · rw [e, pk_us]
        · rw [pk_un (by omega)]; exact a3 j (by omega))
      exact ⟨f', b1, b2, (Out.upd.wide (by omega) (by omega)).trans b3⟩
theorem e2_no : fX2_isThere 0 = some 0 := by
  unfold fX2_isThere
  rw [if_pos rfl]
theorem e2_yes {k : Int32} (h : ¬ k = 0) : fX2_isThere k = some 1 := by
  unfold fX2_isThere
  rw [if_neg h]
/-- promise 5 -/
theorem op_pattern {N n : Nat} {vp kd0 pl0 kd1 pl1 c1 c2 c3 c4 v1 v2 : Int32} {g h f gs b1 b2 b3 b4 ps pf : Nat → Int32} {b5 : Nat → Int64} {t : Nat → Nat} (hN : 1000 ≤ N) (hn : n ≤ 400) (hT : TC g t n) (hM : TM h t n) (h0 : pf 0 = 0) : (∃ r gs' x1 x2 x3 x4 y1 y2 y3 y4 y5 v1' v2' f' ps' pf', fX11_pattern N (nI n) g vp gs kd0 pl0 c1 c2 c3 c4 b1 b2 b3 b4 b5 = some (r, 0, nI n, gs', 0, -1, x1, x2, x3, x4, y1, y2, y3, y4, y5) ∧ fX12_pattern N (nI n) kd1 pl1 v1 v2 f h ps pf = some (r, 0, 0, -1, v1', v2', f', ps', pf') ∧ pf' 0 = 0 ∧ PT t n ∧ SA gs' t n ∧ CutC t n x2 x3 y1 y2 y3 y4 y5 ∧ PA f' 430 t n ∧ Out f f' 430 13) ∨ (∃ kd pl, fX11_pattern N (nI n) g vp gs kd0 pl0 c1 c2 c3 c4 b1 b2 b3 b4 b5 = some (-1, 0, vp, gs, kd, pl, c1, c2, c3, c4, b1, b2, b3, b4, b5) ∧ fX12_pattern N (nI n) kd1 pl1 v1 v2 f h ps pf = some (-1, 0, kd, pl, v1, v2, f, ps, pf) ∧ ¬ kd = 0) := by
  have hb : ∀ i, i < n → t i < 256 := fun i hi => (hT i hi).1
  have hsh : fX10_shorten (nI n) 0 = some (1, 0) := by
    unfold fX10_shorten
    rw [if_neg (show ¬ (0 : Int32) < 0 by decide), if_pos (show (0 : Int32) ≤ nI n from nI_le (a := 0) (Nat.zero_le _) (by omega))]
  have hm : fX12_pattern N (nI n) kd1 pl1 v1 v2 f h ps pf = if (kdp t n).1 = 0 then fX12_pattern_103 N h (nI n) 0 0 (-1) v1 v2 f ps pf else some (-1, 0, (kdp t n).1, (kdp t n).2, v1, v2, f, ps, pf) := by
    unfold fX12_pattern
    by_cases hz : n = 0
    · have hk : kdp t n = (6, 0) := by unfold kdp; rw [if_pos hz]
      rw [if_pos (by rw [hz]; rfl), e12_fails_0, Option.bind_some, hk]
      dsimp only
      rw [if_neg (by decide)]
      exact e12_pat_late (kd := 6) (pl := 0) hn hb hM (by omega) (by omega) (by omega) N 0 (by omega) (by omega) (by omega) (fun _ z => by omega)
    · rw [if_neg (fun z => hz ((n0 (by omega)).mp z))]
      exact e12_pat_l hn hb hM hz N 0 (Nat.zero_le _) (by omega)
  unfold fX11_pattern
  rw [e6_checkPattern hN hn hT, Option.bind_some, hm]
  unfold fX11_pattern_61
  rw [hsh]
  by_cases hk : (kdp t n).1 = 0
  · left
    have hz : n ≠ 0 := fun z => by
      unfold kdp at hk
      rw [if_pos z] at hk
      exact absurd hk (show ¬ (6 : Int32) = 0 by decide)
    have hbd : ¬ bdp t n < min n 12 := fun z => by
      unfold kdp at hk
      rw [if_neg hz, if_pos z] at hk
      exact absurd hk (show ¬ (1 : Int32) = 0 by decide)
    have h12 : ¬ 12 < n := fun z => by
      unfold kdp at hk
      rw [if_neg hz, if_neg hbd, if_pos z] at hk
      exact absurd hk (show ¬ (5 : Int32) = 0 by decide)
    have hkk : kdp t n = (0, -1) := by unfold kdp; rw [if_neg hz, if_neg hbd, if_neg h12]
    have hle := bdp_le t n
    have hq : PT t n := ⟨by omega, by omega, fun i hi => sB_iff.mp (bdp_no (n := n) (by omega))⟩
    obtain ⟨gs', a1, a2⟩ := e5_take (v := vp) (gs := gs) hN (show n ≤ 12 by omega) hT
    obtain ⟨x1, x2, x3, x4, y1, y2, y3, y4, y5, l1, l2⟩ := op_lay (v1 := c1) (v2 := c2) (v3 := c3) (v4 := c4) (c1 := b1) (c2 := b2) (c3 := b3) (c4 := b4) (c5 := b5) hN hq a2
    rw [hkk]
    dsimp only
    rw [e2_no, Option.bind_some, if_pos rfl, if_pos rfl, a1, Option.bind_some]
    dsimp only
    rw [l1]
    simp only [Option.bind_some]
    unfold fX1_pieces fX12_pattern_103
    rw [if_pos trivial, Option.bind_some, if_pos (by decide), show (430 : Int32) = nI 430 from rfl, gi (by decide) (by decide), nI_clamp (by decide)]
    obtain ⟨f', e1, e2, e3⟩ := e12_pat_123 (N := N) (v0 := 0) (a := 0) (b := -1) (v1 := v1) (v2 := v2) (ps := ps) (pf := pf) (show n ≤ 12 by omega) hM N 0 (upd f 430 (nI n)) (Nat.zero_le _) (by omega) (fun j hj => absurd hj (Nat.not_lt_zero j))
    have hP : PA f' 430 t n := ⟨by rw [e3 430 (by omega), pk_us], fun i hi => by rw [show 430 + 1 + i = 431 + i by omega]; exact e2 i hi⟩
    obtain ⟨v2', ps', pf', p1, p2⟩ := op_pieces (v1 := v1) (v2 := v2) (ps := ps) hN hq hP h0
    rw [p1, Option.bind_some] at e1
    refine ⟨_, gs', x1, x2, x3, x4, y1, y2, y3, y4, y5, nI (Kn t n), v2', f', ps', pf', rfl, ?_, p2, hq, a2, l2, hP, (Out.upd.wide (by omega) (by omega)).trans (e3.wide (by omega) (by omega))⟩
    rw [l2.2.1]
    exact e1
  · right
    rw [if_neg hk, e2_yes hk]
    simp only [Option.bind_some]
    rw [if_neg (show ¬ (1 : Int32) = 0 by decide), if_neg (show ¬ (1 : Int32) = 0 by decide)]
    exact ⟨_, _, rfl, rfl, hk⟩
