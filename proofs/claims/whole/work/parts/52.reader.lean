/-! ===== bytes of the tape, rows of letters ===== -/
def isL (x : Nat) : Bool := decide (97 ≤ x ∧ x ≤ 122)
theorem isL_iff {x : Nat} : isL x = true ↔ (97 ≤ x ∧ x ≤ 122) := by unfold isL; rw [decide_eq_true_eq]
theorem e11_isLetter {x : Nat} (h : x < 256) : fX11_isLetter (nI x) = some (if isL x then 1 else 0) := by
  unfold fX11_isLetter isL
  by_cases h1 : x < 97
  · rw [if_pos (show nI x < (97 : Int32) from nI_lt (b := 97) h1 (by decide)), decide_eq_false (by omega)]; rfl
  · rw [if_neg (show ¬ nI x < (97 : Int32) from nI_nlt (b := 97) (by omega) (by omega))]
    by_cases h2 : 122 < x
    · rw [if_pos (show (122 : Int32) < nI x from nI_lt (a := 122) h2 (by omega)), decide_eq_false (by omega)]; rfl
    · rw [if_neg (show ¬ (122 : Int32) < nI x from nI_nlt (a := 122) (by omega) (by decide)), decide_eq_true (by omega)]; rfl
theorem e12_isLetter {x : Nat} (h : x < 256) : fX12_isLetter (nI x) = some (if isL x then 1 else 0) := by
  unfold fX12_isLetter isL
  rw [show fX12_isIn (nI x) 97 122 = some (if 97 ≤ x ∧ x ≤ 122 then 1 else 0) from e12_isIn (lo := 97) (hi := 122) (by omega) (by decide) (by decide), Option.bind_some]
  by_cases h1 : 97 ≤ x ∧ x ≤ 122
  · rw [if_pos h1, decide_eq_true h1]; rfl
  · rw [if_neg h1, decide_eq_false h1]; rfl
theorem byte_and : ∀ b, b < 256 → (nI b).toInt8.toInt32 &&& 255 = nI b := by decide +kernel
theorem e10_at {n i : Nat} {g : Nat → Int32} {t : Nat → Nat} (hn : n ≤ 400) (hT : TC g t n) (hi : i < n) : fX10_at (nI n) g (nI i) = some (nI (t i)) := by
  unfold fX10_at
  rw [if_neg (nI_pos (by omega)), if_pos (nI_lt hi (by omega)), gi (by omega) (by decide), nI_clamp (by omega), (hT i hi).2, byte_and _ (hT i hi).1]
/-- so many letters from here on -/
def lf (t : Nat → Nat) (n p : Nat) : Nat := fa_first (fun i => !isL (t (p + i))) (n - p)
theorem lf_le (t : Nat → Nat) (n p : Nat) : lf t n p ≤ n - p := fa_first_le _ _
theorem lf_is {t : Nat → Nat} {n p i : Nat} (h : i < lf t n p) : isL (t (p + i)) = true := by
  have := fa_first_no _ _ _ h
  simpa using this
theorem lf_end {t : Nat → Nat} {n p : Nat} (hp : p ≤ n) : p + lf t n p = n ∨ isL (t (p + lf t n p)) = false := by
  by_cases h : lf t n p < n - p
  · right
    have := fa_first_yes _ _ h
    unfold lf
    simpa using this
  · left; have := lf_le t n p; omega
theorem lf_out {t : Nat → Nat} {n p : Nat} (h : p = n ∨ isL (t p) = false) : lf t n p = 0 := by
  rcases h with h | h
  · have := lf_le t n p; omega
  · refine Classical.byContradiction fun z => ?_
    have := lf_is (t := t) (n := n) (p := p) (i := 0) (by omega)
    rw [Nat.add_zero, h] at this; cases this
theorem e6_lettersFrom_l {N n p : Nat} {g : Nat → Int32} {t : Nat → Nat} (hn : n ≤ 400) (hT : TC g t n) (hp : p ≤ n) : ∀ K i, i ≤ lf t n p → n + 1 ≤ K + (p + i) → fX6_lettersFrom_2 N (nI n) g (nI p) K (nI i) = some (nI (lf t n p)) := by
  have hl := lf_le t n p
  intro K
  induction K with
  | zero => intro i h1 h2; omega
  | succ K ih =>
    intro i h1 h2
    rw [fX6_lettersFrom_2, nI_add]
    unfold fX10_size
    rw [Option.bind_some]
    by_cases hi : n ≤ p + i
    · rw [if_pos (nI_le hi (by omega)), show i = lf t n p by omega]
    · rw [if_neg (nI_ge (by omega) (by omega)), e10_at hn hT (by omega), Option.bind_some, e11_isLetter (hT _ (by omega)).1, Option.bind_some, nI_1]
      cases hb : isL (t (p + i)) with
      | false =>
        rw [if_pos (ib0.mpr rfl)]
        have : i = lf t n p := Classical.byContradiction fun z => by
          have := lf_is (t := t) (n := n) (p := p) (i := i) (by omega)
          rw [hb] at this; cases this
        rw [← this]
      | true =>
        rw [if_neg (by decide)]
        refine ih (i + 1) ?_ (by omega)
        by_cases z : i = lf t n p
        · rcases lf_end (t := t) hp with q | q
          · omega
          · rw [← z, hb] at q; cases q
        · omega
theorem e6_lettersFrom {N n p : Nat} {g : Nat → Int32} {t : Nat → Nat} (hN : 1000 ≤ N) (hn : n ≤ 400) (hT : TC g t n) (hp : p ≤ n) : fX6_lettersFrom N (nI n) g (nI p) = some (nI (lf t n p)) := by
  unfold fX6_lettersFrom
  exact e6_lettersFrom_l hn hT hp N 0 (Nat.zero_le _) (by omega)
/-- the word that lies on the tape -/
def Wd (t : Nat → Nat) (p L : Nat) : Nat := hr L (fun i => t (p + i) - 95)
theorem Wd_ok {t : Nat → Nat} {p L : Nat} (h1 : 1 ≤ L) (h7 : L ≤ 7) (hl : ∀ i, i < L → isL (t (p + i)) = true) : isW (Wd t p L) ∧ ln (Wd t p L) = L ∧ ∀ i, i < L → dg (Wd t p L) i = t (p + i) - 95 := by
  have hc : ∀ i, i < L → t (p + i) - 95 < 32 := fun i hi => by have := isL_iff.mp (hl i hi); omega
  have hd : ∀ i, i < L → dg (Wd t p L) i = t (p + i) - 95 := fun i hi => by
    unfold Wd; rw [dg_hr hc (by omega), if_pos hi]
  have hz : ∀ i, L ≤ i → dg (Wd t p L) i = 0 := fun i hi => by
    by_cases h8 : i < 8
    · unfold Wd; rw [dg_hr hc h8, if_neg (by omega)]
    · exact dg_out (by omega)
  have hln : ln (Wd t p L) = L := ln_is (by omega) (fun i hi => by rw [hd i hi]; have := isL_iff.mp (hl i hi); omega) (fun _ => hz L (Nat.le_refl _))
  refine ⟨⟨hr_lt hc, by omega, by omega, fun i hi => ?_, fun i hi => hz i (by omega)⟩, hln, hd⟩
  rw [hln] at hi
  rw [hd i hi]
  have := isL_iff.mp (hl i hi)
  omega
theorem e6_rowFrom_l {N n p L : Nat} {g : Nat → Int32} {t : Nat → Nat} (h7 : L ≤ 7) (hn : n ≤ 400) (hT : TC g t n) (hp : p + L ≤ n) (hl : ∀ i, i < L → isL (t (p + i)) = true) : ∀ K i, i ≤ L → L + 1 ≤ K + i → fX6_rowFrom_5 N (nI n) g (nI p) (nI L) K (lN (hr i (fun i => t (p + i) - 95))) (nI i) = some (lN (Wd t p L)) := by
  intro K
  induction K with
  | zero => intro i h1 h2; omega
  | succ K ih =>
    intro i h1 h2
    rw [fX6_rowFrom_5, nI_add]
    by_cases hi : L ≤ i
    · rw [if_pos (nI_le hi (by omega)), show i = L by omega]; rfl
    · have hb := isL_iff.mp (hl i (by omega))
      have hsg : nI (t (p + i)) = nI (sg ((fun i => t (p + i) - 95) i)) := by
        refine congrArg nI ?_
        show t (p + i) = sg (t (p + i) - 95)
        unfold sg
        rw [if_neg (by omega), if_neg (by omega)]; omega
      rw [if_neg (nI_ge (by omega) (by omega)), e10_at hn hT (by omega), Option.bind_some, hsg]
      rw [put_next (c := fun i => t (p + i) - 95) (c' := fun i => t (p + i) - 95) (by omega) (fun j hj => by have := isL_iff.mp (hl j (by omega)); show t (p + j) - 95 < 32; omega) (fun _ _ => rfl) (by show 1 ≤ t (p + i) - 95; omega) (by show t (p + i) - 95 < 32; omega), Option.bind_some, nI_1]
      exact ih (i + 1) (by omega) (by omega)
theorem e6_rowFrom {N n p L : Nat} {g : Nat → Int32} {t : Nat → Nat} (hN : 1000 ≤ N) (h7 : L ≤ 7) (hn : n ≤ 400) (hT : TC g t n) (hp : p + L ≤ n) (hl : ∀ i, i < L → isL (t (p + i)) = true) : fX6_rowFrom N (nI n) g (nI p) (nI L) = some (lN (Wd t p L)) := by
  unfold fX6_rowFrom
  have := e6_rowFrom_l (N := N) h7 hn hT hp hl N 0 (Nat.zero_le _) (by omega)
  rw [hr_0] at this
  exact this
/-- the reference lays a word -/
theorem e12_laysWord_36 {N n p L a : Nat} {h : Nat → Int32} {t : Nat → Nat} (h7 : L ≤ 7) (hn : n ≤ 400) (hM : TM h t n) (hp : p + L ≤ n) (ha : a + 8 ≤ 5228) : ∀ K i f, i ≤ L → L + 1 ≤ K + i → (∀ j, j < i → f (a + 1 + j) = nI (t (p + j))) → ∃ f', fX12_laysWord_36 N h (nI p) (nI L) (nI a) K (nI i) f = some f' ∧ f' a = f a ∧ (∀ j, j < L → f' (a + 1 + j) = nI (t (p + j))) ∧ Out f f' a 8 := by
  intro K
  induction K with
  | zero => intro i f h1 h2; omega
  | succ K ih =>
    intro i f h1 h2 h3
    rw [fX12_laysWord_36]
    by_cases hi : L ≤ i
    · rw [if_pos (nI_le hi (by omega))]
      exact ⟨f, rfl, rfl, fun j hj => h3 j (by omega), Out.rf⟩
    · rw [if_neg (nI_ge (by omega) (by omega)), nI_1, nI_1, nI_add, nI_add, gi (by omega) (by decide), gi (by omega) (by decide), nI_clamp (by omega), nI_clamp (by omega), hM _ (by omega)]
      obtain ⟨f', e1, e2, e3, e4⟩ := ih (i + 1) (upd f (a + 1 + i) (nI (t (p + i)))) (by omega) (by omega) (fun j hj => by
        by_cases e : j = i
        · rw [e, pk_us]
        · rw [pk_un (by omega)]; exact h3 j (by omega))
      exact ⟨f', e1, by rw [e2, pk_un (by omega)], e3, (Out.upd.wide (by omega) (by omega)).trans e4⟩
theorem e12_laysWord_3 {N n p L a : Nat} {h : Nat → Int32} {t : Nat → Nat} (hN : 1000 ≤ N) (h7 : L ≤ 7) (hn : n ≤ 400) (hM : TM h t n) (hp : p + L ≤ n) (ha : a + 8 ≤ 5228) : ∀ K i f, i ≤ 8 → 9 ≤ K + i → ∃ f', fX12_laysWord_3 N h (nI p) (nI L) (nI a) K (nI i) f = some f' ∧ f' a = nI L ∧ (∀ j, j < L → f' (a + 1 + j) = nI (t (p + j))) ∧ Out f f' a 8 := by
  intro K
  induction K with
  | zero => intro i f h1 h2; omega
  | succ K ih =>
    intro i f h1 h2
    rw [fX12_laysWord_3]
    by_cases hi : 8 ≤ i
    · rw [if_pos (show (8 : Int32) ≤ nI i from nI_le (a := 8) hi (by omega)), gi (by omega) (by decide), nI_clamp (by omega)]
      obtain ⟨f', e1, e2, e3, e4⟩ := e12_laysWord_36 (N := N) h7 hn hM hp ha N 0 (upd f a (nI L)) (Nat.zero_le _) (by omega) (fun j hj => absurd hj (Nat.not_lt_zero j))
      exact ⟨f', e1, by rw [e2, pk_us], e3, (Out.upd.wide (by omega) (by omega)).trans e4⟩
    · rw [if_neg (show ¬ (8 : Int32) ≤ nI i from nI_ge (b := 8) (by omega) (by omega)), nI_add, gi (by omega) (by decide), nI_clamp (by omega), nI_1]
      obtain ⟨f', e1, e2, e3, e4⟩ := ih (i + 1) (upd f (a + i) 0) (by omega) (by omega)
      exact ⟨f', e1, e2, e3, (Out.upd.wide (by omega) (by omega)).trans e4⟩
theorem e12_laysWord {N n p L a : Nat} {f h : Nat → Int32} {t : Nat → Nat} (hN : 1000 ≤ N) (h1 : 1 ≤ L) (h7 : L ≤ 7) (hn : n ≤ 400) (hM : TM h t n) (hp : p + L ≤ n) (hl : ∀ i, i < L → isL (t (p + i)) = true) (ha : a + 8 ≤ 5228) : ∃ f', fX12_laysWord N f h (nI p) (nI L) (nI a) = some f' ∧ WA f' a (Wd t p L) ∧ Out f f' a 8 := by
  obtain ⟨f', e1, e2, e3, e4⟩ := e12_laysWord_3 (N := N) hN h7 hn hM hp ha N 0 f (by omega) (by omega)
  obtain ⟨w1, w2, w3⟩ := Wd_ok h1 h7 hl
  refine ⟨f', e1, ⟨by rw [e2, w2], fun i hi => ?_⟩, e4⟩
  rw [w2] at hi
  rw [e3 i hi, w3 i hi]
  have := isL_iff.mp (hl i hi)
  unfold sg
  rw [if_neg (by omega), if_neg (by omega)]
  refine congrArg nI ?_
  omega
