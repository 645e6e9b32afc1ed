/-! ===== words are read ===== -/
theorem e12_fails_0 {y a b : Int32} : fX12_fails 0 y a b = some (a, b) := by
  unfold fX12_fails fX12_fails_32
  rw [if_pos (by decide)]
theorem e12_fails_late {kd pl at_ : Nat} {a : Int32} (h1 : 1 ≤ kd) (h2 : kd < 100) (h : pl < at_) (h3 : at_ < 1000) : fX12_fails (nI kd) (nI pl) a (nI at_) = some (nI kd, nI pl) := by
  unfold fX12_fails
  rw [if_neg (show ¬ nI kd ≤ (0 : Int32) from nI_ge (a := 0) (by omega) (by omega)), if_pos (nI_lt h (by omega))]
theorem e12_fails_43 {pl : Nat} (h : pl < 1000) : fX12_fails 3 (nI pl) 4 (nI pl) = some (4, nI pl) := by
  unfold fX12_fails fX12_fails_32
  rw [if_neg (by decide), if_neg (nI_nlt (Nat.le_refl _) (by omega)), if_pos rfl, if_pos (by decide)]
/-- a row ends, a fault was met ahead of it -/
theorem e12_rowEnds_late {N n p L m kd pl : Nat} {f h : Nat → Int32} {t d : Nat → Nat} (hN : 1000 ≤ N) (hn : n ≤ 400) (hM : TM h t n) (hp : p + L ≤ n) (hl : ∀ i, i < L → isL (t (p + i)) = true) (hD : Dic m d) (hA : DA f 764 d m) (h1 : 1 ≤ kd) (h2 : kd < 100) (hpl : pl < p) : ∃ f', fX12_rowEnds N (nI kd) (nI pl) f h (nI p) (nI L) = some (nI kd, nI pl, f') ∧ Out f f' 764 329 ∧ DA f' 764 d m := by
  have h40 := hD.1
  unfold fX12_rowEnds
  by_cases h0 : L = 0
  · rw [if_pos (by rw [h0]; rfl)]; exact ⟨f, rfl, Out.rf, hA⟩
  · rw [if_neg (fun z => h0 ((n0 (by omega)).mp z))]
    by_cases h7 : L ≤ 7
    · obtain ⟨f1, a1, a2, a3⟩ := e12_laysWord (f := f) (a := 1085) hN (by omega) h7 hn hM hp hl (by decide)
      have hA1 : DA f1 764 d m := a3.DA hD.2.2 (Or.inl (by omega)) hA
      have wW := (Wd_ok (by omega) h7 hl).1
      have hno := e12_numberOf (b := 764) (x := 1085) hN hA1 a2 wW hD.2.2 hD.2.1 (by omega) (by omega) h40
      rw [if_pos (show nI L ≤ (7 : Int32) from nI_le (b := 7) h7 (by decide)), show fX12_laysWord N f h (nI p) (nI L) 1085 = some f1 from a1, Option.bind_some, show fX12_numberOf N f1 764 1085 = _ from hno, Option.bind_some]
      have t49 : fX12_rowEnds_49 N h (nI p) (nI L) (nI kd) (nI pl) f1 = some (nI kd, nI pl, f1) := by
        unfold fX12_rowEnds_49 fX12_rowEnds_68
        rw [show (764 : Int32) = nI 764 from rfl, gi (by decide) (by decide), nI_clamp (by decide), hA1.1, e12_fails_late h1 h2 hpl (by omega), Option.bind_some]
        have hk0 : ¬ nI kd = (0 : Int32) := fun z => by have := (n0 (by omega)).mp z; omega
        dsimp only
        rw [if_neg hk0, ite_self]
      have hO : Out f f1 764 329 := a3.wide (by omega) (by omega)
      split
      · rw [if_neg (nI_pos (by have := bl_le d m (Wd t p L); omega)), e12_fails_late h1 h2 hpl (by omega), Option.bind_some, t49]
        exact ⟨f1, rfl, hO, hA1⟩
      · rw [if_pos (by decide), t49]
        exact ⟨f1, rfl, hO, hA1⟩
    · rw [if_neg (show ¬ nI L ≤ (7 : Int32) from nI_ge (a := 7) (by omega) (by omega)), show nI p + 7 = nI (p + 7) from nI_add p 7, e12_fails_late h1 h2 (by omega) (by omega), Option.bind_some]
      exact ⟨f, rfl, Out.rf, hA⟩
/-- the reference at the end of a row -/
theorem w33_step {N n k run K : Nat} {v0 u fk fp fk' fp' : Int32} {f f' h : Nat → Int32} {t : Nat → Nat} (hn : n ≤ 400) (hb : ∀ i, i < n → t i < 256) (hM : TM h t n) (hk : k ≤ n) (hrun : run ≤ k) (hnl : k = n ∨ isL (t k) = false) (hr : fX12_rowEnds N fk fp f h (nI (k - run)) (nI run) = some (fk', fp', f')) : fX12_words_33 N h (K + 1) (nI n) (nI run) (nI k) v0 fk fp u f = if k = n ∨ t k = 32 ∨ t k = 10 then fX12_words_33 N h K (nI n) 0 (nI (k + 1)) v0 fk' fp' u f' else Option.bind (fX12_fails fk' fp' 1 (nI k)) fun r => fX12_words_33 N h K (nI n) 0 (nI (k + 1)) v0 r.1 r.2 u f' := by
  rw [fX12_words_33, if_neg (nI_nlt hk (by omega))]
  have h59 : fX12_words_59 N h (fX12_words_33 N h K) (nI n) (nI run) (nI k) v0 fk fp u f = if k = n ∨ t k = 32 ∨ t k = 10 then fX12_words_33 N h K (nI n) 0 (nI (k + 1)) v0 fk' fp' u f' else Option.bind (fX12_fails fk' fp' 1 (nI k)) fun r => fX12_words_33 N h K (nI n) 0 (nI (k + 1)) v0 r.1 r.2 u f' := by
    unfold fX12_words_59 fX12_words_60
    rw [if_pos rfl, pk_sub hrun, hr, Option.bind_some, nI_1]
    dsimp only
    by_cases hkn : n ≤ k
    · rw [if_pos (nI_le hkn (by omega)), if_pos (Or.inl (by omega))]
    · have hbk := hb k (by omega)
      rw [if_neg (nI_ge (by omega) (by omega)), gi (by omega) (by decide), gi (by omega) (by decide), nI_clamp (by omega), hM k (by omega)]
      by_cases h32 : t k = 32
      · rw [if_pos (by rw [h32]; rfl), if_pos (Or.inr (Or.inl h32))]
      · rw [if_neg (show ¬ nI (t k) = (32 : Int32) from fun z => h32 ((nI_eq (b := 32) (by omega) (by decide)).mp z))]
        by_cases h10 : t k = 10
        · rw [if_pos (by rw [h10]; rfl), if_pos (Or.inr (Or.inr h10))]
        · rw [if_neg (show ¬ nI (t k) = (10 : Int32) from fun z => h10 ((nI_eq (b := 10) (by omega) (by decide)).mp z)), if_neg (fun z => by omega)]
  by_cases hkn : n ≤ k
  · rw [if_pos (nI_le hkn (by omega)), h59]
  · have hbk := hb k (by omega)
    rw [if_neg (nI_ge (by omega) (by omega)), gi (by omega) (by decide), nI_clamp (by omega), hM k (by omega), e12_isLetter hbk, Option.bind_some, (hnl.resolve_left (by omega)), if_pos (ib0.mpr rfl), h59]
theorem w33_letter {N n k run K : Nat} {v0 u fk fp : Int32} {f h : Nat → Int32} {t : Nat → Nat} (hn : n ≤ 400) (hb : ∀ i, i < n → t i < 256) (hM : TM h t n) (hk : k < n) (hl : isL (t k) = true) : fX12_words_33 N h (K + 1) (nI n) (nI run) (nI k) v0 fk fp u f = fX12_words_33 N h K (nI n) (nI (run + 1)) (nI (k + 1)) v0 fk fp u f := by
  have hbk := hb k (by omega)
  rw [fX12_words_33, if_neg (nI_nlt (by omega) (by omega)), if_neg (nI_ge hk (by omega)), gi (by omega) (by decide), nI_clamp (by omega), hM k hk, e12_isLetter hbk, Option.bind_some, hl, if_neg (by decide)]
  unfold fX12_words_60
  rw [if_neg (by decide), nI_1, nI_1]
theorem w33_letters {N n p K : Nat} {v0 u fk fp : Int32} {f h : Nat → Int32} {t : Nat → Nat} (hn : n ≤ 400) (hb : ∀ i, i < n → t i < 256) (hM : TM h t n) (hp : p ≤ n) : ∀ c j, j + c = lf t n p → fX12_words_33 N h (K + c) (nI n) (nI j) (nI (p + j)) v0 fk fp u f = fX12_words_33 N h K (nI n) (nI (lf t n p)) (nI (p + lf t n p)) v0 fk fp u f := by
  intro c
  induction c with
  | zero => intro j hj; rw [show j = lf t n p by omega]; rfl
  | succ c ih =>
    intro j hj
    have := lf_le t n p
    rw [show K + (c + 1) = (K + c) + 1 by omega, w33_letter (k := p + j) hn hb hM (by omega) (lf_is (n := n) (i := j) (by omega)), ← ih (j + 1) (by omega)]
    rfl
/-- once a fault is met it stays -/
theorem w33_late {N n m kd pl : Nat} {v0 u : Int32} {h : Nat → Int32} {t d : Nat → Nat} (hN : 1000 ≤ N) (hn : n ≤ 400) (hb : ∀ i, i < n → t i < 256) (hM : TM h t n) (hD : Dic m d) (h1 : 1 ≤ kd) (h2 : kd < 100) : ∀ K k run f, k ≤ n + 1 → run ≤ k → pl + run < k → (k = n + 1 → run = 0) → n + 2 ≤ K + k → (∀ i, i < run → isL (t (k - run + i)) = true) → DA f 764 d m → ∃ f', fX12_words_33 N h K (nI n) (nI run) (nI k) v0 (nI kd) (nI pl) u f = some (-1, v0, nI kd, nI pl, u, f') ∧ Out f f' 764 329 := by
  intro K
  induction K with
  | zero => intro k run f q1 q2 q3 q4 q5; omega
  | succ K ih =>
    intro k run f q1 q2 q3 q4 q5 q6 q7
    by_cases hk : k = n + 1
    · rw [fX12_words_33, if_pos (nI_lt (by omega) (by omega)), if_neg (show ¬ nI kd ≤ (0 : Int32) from nI_ge (a := 0) (by omega) (by omega))]
      exact ⟨f, rfl, Out.rf⟩
    · by_cases hl : k < n ∧ isL (t k) = true
      · rw [w33_letter hn hb hM hl.1 hl.2]
        exact ih (k + 1) (run + 1) f (by omega) (by omega) (by omega) (by omega) (by omega) (fun i hi => by
          rw [show k + 1 - (run + 1) + i = k - run + i by omega]
          by_cases e : i = run
          · rw [e, show k - run + run = k by omega]; exact hl.2
          · exact q6 i (by omega)) q7
      · have hnl : k = n ∨ isL (t k) = false := by
          by_cases e : k = n
          · exact Or.inl e
          · exact Or.inr (Bool.eq_false_iff.mpr (fun z => hl ⟨by omega, z⟩))
        obtain ⟨f1, a1, a2, a3⟩ := e12_rowEnds_late (p := k - run) (L := run) (kd := kd) (pl := pl) hN hn hM (by omega) q6 hD q7 h1 h2 (by omega)
        rw [w33_step hn hb hM (by omega) q2 hnl a1, e12_fails_late h1 h2 (by omega) (by omega), Option.bind_some]
        obtain ⟨f', b1, b2⟩ := ih (k + 1) 0 f1 (by omega) (by omega) (by omega) (by omega) (by omega) (fun i hi => absurd hi (Nat.not_lt_zero i)) a3
        refine ⟨f', ?_, a2.trans b2⟩
        split
        · exact b1
        · exact b1
/-- a row ends, no fault before: what the class does with it -/
theorem row_ends {N n p L m : Nat} {f g h : Nat → Int32} {gr : Nat → Int64} {t d : Nat → Nat} (hN : 1000 ≤ N) (hn : n ≤ 400) (hT : TC g t n) (hM : TM h t n) (h1 : 1 ≤ L) (hp : p + L ≤ n) (hl : ∀ i, i < L → isL (t (p + i)) = true) (hD : Dic m d) (hR : Ris gr d m) (hA : DA f 764 d m) : (∃ kd v' g' f', 1 ≤ kd ∧ kd ≤ 4 ∧ fX6_takeRow N 40 (nI n) g (nI m) gr (nI p) (nI L) = some (nI kd, v', g') ∧ fX12_rowEnds N 0 (-1) f h (nI p) (nI L) = some (nI kd, nI (if kd = 2 then p + 7 else p), f') ∧ Out f f' 764 329 ∧ DA f' 764 d m ∧ (kd = 2 → 8 ≤ L)) ∨ (∃ m' d' g' f', fX6_takeRow N 40 (nI n) g (nI m) gr (nI p) (nI L) = some (0, nI m', g') ∧ fX12_rowEnds N 0 (-1) f h (nI p) (nI L) = some (0, -1, f') ∧ Dic m' d' ∧ Ris g' d' m' ∧ DA f' 764 d' m' ∧ Out f f' 764 329) := by
  have h40 := hD.1
  unfold fX6_takeRow fX12_rowEnds
  have hL0 : ¬ nI L = (0 : Int32) := fun z => by have := (n0 (by omega)).mp z; omega
  rw [if_neg hL0, if_neg hL0]
  by_cases h7 : L ≤ 7
  · obtain ⟨f1, a1, a2, a3⟩ := e12_laysWord (f := f) (a := 1085) hN h1 h7 hn hM hp hl (by decide)
    have hA1 : DA f1 764 d m := a3.DA hD.2.2 (Or.inl (by omega)) hA
    have wW := (Wd_ok h1 h7 hl).1
    have hx62 : Wd t p L < 4611686018427387904 := by have := wW.1; omega
    have hno := e12_numberOf (b := 764) (x := 1085) hN hA1 a2 wW hD.2.2 hD.2.1 (by omega) (by omega) h40
    have hO : Out f f1 764 329 := a3.wide (by omega) (by omega)
    have hle7 : nI L ≤ (7 : Int32) := nI_le (b := 7) h7 (by decide)
    rw [if_pos hle7, if_pos hle7, show fX12_laysWord N f h (nI p) (nI L) 1085 = some f1 from a1, Option.bind_some, show fX12_numberOf N f1 764 1085 = _ from hno, Option.bind_some]
    unfold fX7_size
    rw [Option.bind_some]
    have t49 : ∀ a b : Int32, fX12_rowEnds_49 N h (nI p) (nI L) a b f1 = if m = 40 then Option.bind (fX12_fails a b 4 (nI p)) fun r10 => fX12_rowEnds_68 N h (nI p) (nI L) r10.1 r10.2 f1 else fX12_rowEnds_68 N h (nI p) (nI L) a b f1 := fun a b => by
      unfold fX12_rowEnds_49
      rw [show (764 : Int32) = nI 764 from rfl, gi (by decide) (by decide), nI_clamp (by decide), hA1.1]
      by_cases e : m = 40
      · rw [if_pos (by rw [e]; rfl), if_pos e]
      · rw [if_neg (show ¬ nI m = (40 : Int32) from fun z => e ((nI_eq (b := 40) (by omega) (by decide)).mp z)), if_neg e]
    have hbl := bl_le d m (Wd t p L)
    have hth := bl_there (x := Wd t p L) hD.2.1
    by_cases hm : m = 40
    · rw [if_neg (show ¬ nI m < (40 : Int32) from nI_nlt (b := 40) (by omega) (by omega))]
      refine Or.inl ⟨4, _, _, f1, by omega, by omega, rfl, ?_, hO, hA1, fun z => by omega⟩
      have h68 : fX12_rowEnds_68 N h (nI p) (nI L) 4 (nI p) f1 = some (4, nI p, f1) := by
        unfold fX12_rowEnds_68
        rw [if_neg (by decide)]
      split
      · rw [if_neg (nI_pos (by omega)), e12_fails_0, Option.bind_some, t49, if_pos hm]
        dsimp only
        rw [e12_fails_43 (by omega), Option.bind_some]
        exact h68
      · rw [if_pos (by decide), t49, if_pos hm, e12_fails_0, Option.bind_some]
        exact h68
    · rw [if_pos (show nI m < (40 : Int32) from nI_lt (b := 40) (by omega) (by decide)), e6_rowFrom hN h7 hn hT hp hl, Option.bind_some]
      by_cases hin : ∃ i, i < m ∧ d i = Wd t p L
      · rw [e7_add_no (by omega) hR hD.2.1 hD.sma hx62 h40 (by omega) (Or.inr hin), Option.bind_some, if_pos (hth.mp hin), if_neg (nI_pos (by omega)), e12_fails_0, Option.bind_some, t49, if_neg hm]
        refine Or.inl ⟨3, _, _, f1, by omega, by omega, rfl, ?_, hO, hA1, fun z => by omega⟩
        unfold fX12_rowEnds_68
        dsimp only
        rw [if_neg (by decide)]
        rfl
      · obtain ⟨g', b1, b2⟩ := e7_add_yes (N := N) (n := 40) (by omega) hR hD.2.1 hD.sma hx62 (by omega) (by omega) hin
        obtain ⟨f2, c1, c2, c3⟩ := e12_comes (b := 764) (x := 1085) hN hA1 (by omega) (by omega) h40 hD.2.2 wW hD.2.1 a2 (Or.inr (by omega)) hin
        rw [b1, Option.bind_some]
        dsimp only
        rw [if_neg (show ¬ (1 : Int32) = 0 by decide), if_neg (fun z => hin (hth.mpr z)), if_pos (by decide), t49, if_neg hm]
        refine Or.inr ⟨m + 1, _, g', f2, rfl, ?_, hD.ins (by omega) wW hin, b2, c2, hO.trans (c3.wide (by omega) (by omega))⟩
        unfold fX12_rowEnds_68
        rw [if_pos rfl, show fX12_comes N f1 764 1085 = some f2 from c1, Option.bind_some]
  · have hgt7 : ¬ nI L ≤ (7 : Int32) := nI_ge (a := 7) (by omega) (by omega)
    rw [if_neg hgt7, if_neg hgt7, e12_fails_0, Option.bind_some]
    refine Or.inl ⟨2, _, _, f, by omega, by omega, rfl, ?_, Out.rf, hA, fun _ => by omega⟩
    rw [show nI p + 7 = nI (p + 7) from nI_add p 7]
    rfl
theorem e6_isBlank {x : Nat} (h : x < 256) : fX6_isBlank (nI x) = some (if x = 10 ∨ x = 32 then 1 else 0) := by
  unfold fX6_isBlank
  by_cases h1 : x = 10
  · rw [if_pos (by rw [h1]; rfl), if_pos (Or.inl h1)]
  · rw [if_neg (show ¬ nI x = (10 : Int32) from fun z => h1 ((nI_eq (b := 10) (by omega) (by decide)).mp z))]
    by_cases h2 : x = 32
    · rw [if_pos (by rw [h2]; rfl), if_pos (Or.inr h2)]
    · rw [if_neg (show ¬ nI x = (32 : Int32) from fun z => h2 ((nI_eq (b := 32) (by omega) (by decide)).mp z)), if_neg (fun z => by omega)]
/-- both readers from a place on -/
def Both (N n m p : Nat) (v0 u : Int32) (g h f : Nat → Int32) (gr : Nat → Int64) (d : Nat → Nat) (X : Option (Int32 × (Nat → Int64) × Int32 × Int32)) (Y : Option (Int32 × Int32 × Int32 × Int32 × Int32 × (Nat → Int32))) : Prop :=
  (∃ m' d' gr' f' K, X = some (nI m', gr', 0, -1) ∧ Y = fX12_words_33 N h (K + 1) (nI n) 0 (nI (n + 1)) v0 0 (-1) u f' ∧ Dic m' d' ∧ Ris gr' d' m' ∧ DA f' 764 d' m' ∧ Out f f' 764 329) ∨ (∃ kd pl v gr' f', 1 ≤ kd ∧ kd ≤ 4 ∧ X = some (v, gr', nI kd, nI pl) ∧ Y = some (-1, v0, nI kd, nI pl, u, f') ∧ Out f f' 764 329)
theorem Both.out {N n m p : Nat} {v0 u : Int32} {g h f f1 : Nat → Int32} {gr : Nat → Int64} {d : Nat → Nat} {m1 p1 : Nat} {gr1 : Nat → Int64} {d1 : Nat → Nat} {X : Option (Int32 × (Nat → Int64) × Int32 × Int32)} {Y : Option (Int32 × Int32 × Int32 × Int32 × Int32 × (Nat → Int32))} (hO : Out f f1 764 329) (hB : Both N n m1 p1 v0 u g h f1 gr1 d1 X Y) : Both N n m p v0 u g h f gr d X Y := by
  rcases hB with ⟨m', d', gr', f', K, a1, a2, a3, a4, a5, a6⟩ | ⟨kd, pl, v, gr', f', a1, a2, a3, a4, a5⟩
  · exact Or.inl ⟨m', d', gr', f', K, a1, a2, a3, a4, a5, hO.trans a6⟩
  · exact Or.inr ⟨kd, pl, v, gr', f', a1, a2, a3, a4, hO.trans a5⟩
theorem e6_61 {N n x L : Nat} {kd y v : Int32} {g : Nat → Int32} {gr : Nat → Int64} (rc : Int32 → Int32 → (Nat → Int64) → Int32 → Int32 → Option (Int32 × (Nat → Int64) × Int32 × Int32)) {a b : Int32} (hL : L < 1000) : fX6_readWords_61 N 40 (nI n) g rc kd y (nI x) (nI L) v gr a b = rc (nI (x + (if L < 1 then 1 else L))) v gr kd (if kd = 0 then -1 else y) := by
  unfold fX6_readWords_61 fX2_set fX2_set_15
  have e : (nI x + if nI L < 1 then 1 else nI L) = nI (x + (if L < 1 then 1 else L)) := by
    by_cases h : L < 1
    · rw [if_pos (show nI L < (1 : Int32) from nI_lt (b := 1) h (by decide)), if_pos h, nI_1]
    · rw [if_neg (show ¬ nI L < (1 : Int32) from nI_nlt (b := 1) (by omega) (by omega)), if_neg h, nI_add]
  rw [e]
  by_cases h : kd = 0
  · rw [if_pos h, if_pos h, Option.bind_some]
  · rw [if_neg h, if_neg h, Option.bind_some]
theorem e6_stop {N n x K : Nat} {v : Int32} {g : Nat → Int32} {gr : Nat → Int64} {kd : Nat} {b : Int32} (h1 : 1 ≤ kd) (h2 : kd ≤ 4) : fX6_readWords_12 N 40 (nI n) g (K + 1) (nI x) v gr (nI kd) b = some (v, gr, nI kd, b) := by
  rw [fX6_readWords_12]
  unfold fX10_size fX2_isThere
  have hk0 : ¬ nI kd = (0 : Int32) := fun z => by have := (n0 (by omega)).mp z; omega
  rw [Option.bind_some, if_neg hk0, Option.bind_some, if_neg (show ¬ (1 : Int32) = 0 by decide), ite_self]
theorem both_0 {N n p : Nat} {v0 u : Int32} {g h : Nat → Int32} {t : Nat → Nat} (hN : 1000 ≤ N) (hn : n ≤ 400) (hT : TC g t n) (hM : TM h t n) (hp : p ≤ n) (hnl : p = n ∨ isL (t p) = false) (ih : p < n → ∀ m d gr f K1 K2, Dic m d → Ris gr d m → DA f 764 d m → n + 2 ≤ K1 + (p + 1) → n + 3 ≤ K2 + (p + 1) → Both N n m (p + 1) v0 u g h f gr d (fX6_readWords_12 N 40 (nI n) g K1 (nI (p + 1)) (nI m) gr 0 (-1)) (fX12_words_33 N h K2 (nI n) 0 (nI (p + 1)) v0 0 (-1) u f)) {m : Nat} {d : Nat → Nat} {gr : Nat → Int64} {f : Nat → Int32} {K1 K2 : Nat} (hD : Dic m d) (hR : Ris gr d m) (hA : DA f 764 d m) (hK1 : n + 2 ≤ K1 + p) (hK2 : n + 2 ≤ K2 + p) : Both N n m p v0 u g h f gr d (fX6_readWords_12 N 40 (nI n) g K1 (nI p) (nI m) gr 0 (-1)) (if p = n ∨ t p = 32 ∨ t p = 10 then fX12_words_33 N h K2 (nI n) 0 (nI (p + 1)) v0 0 (-1) u f else Option.bind (fX12_fails 0 (-1) 1 (nI p)) fun r => fX12_words_33 N h K2 (nI n) 0 (nI (p + 1)) v0 r.1 r.2 u f) := by
  obtain ⟨K1, rfl⟩ : ∃ K, K1 = K + 1 := ⟨K1 - 1, by omega⟩
  by_cases hpn : p = n
  · subst hpn
    rw [if_pos (Or.inl rfl), fX6_readWords_12]
    unfold fX10_size
    rw [Option.bind_some, if_pos (nI_le (Nat.le_refl _) (by omega))]
    exact Or.inl ⟨m, d, gr, f, K2 - 1, rfl, by rw [show K2 - 1 + 1 = K2 by omega], hD, hR, hA, Out.rf⟩
  · have hb := (hT p (by omega)).1
    rw [fX6_readWords_12]
    unfold fX10_size fX2_isThere
    rw [Option.bind_some, if_neg (nI_ge (by omega) (by omega)), if_pos rfl, Option.bind_some, if_pos rfl, e6_lettersFrom hN hn hT hp, Option.bind_some, lf_out hnl]
    unfold fX6_takeRow
    rw [if_pos (show nI 0 = 0 from rfl), e10_at hn hT (by omega), Option.bind_some, e6_isBlank hb, Option.bind_some]
    by_cases hbl : t p = 10 ∨ t p = 32
    · rw [if_pos hbl, if_neg (by decide), Option.bind_some, if_pos (Or.inr hbl.symm)]
      dsimp only
      rw [if_neg (by decide), e6_61 _ (by omega), if_pos rfl, if_pos (by omega)]
      exact Both.out Out.rf (ih (by omega) m d gr f K1 K2 hD hR hA (by omega) (by omega))
    · rw [if_neg hbl, if_pos rfl, Option.bind_some, if_neg (show ¬ (p = n ∨ t p = 32 ∨ t p = 10) from fun z => by omega), e12_fails_0, Option.bind_some]
      dsimp only
      rw [if_neg (show ¬ (1 : Int32) = 2 by decide), e6_61 (kd := 1) (L := 0) _ (by omega), if_neg (show ¬ (1 : Int32) = 0 by decide), if_pos (show 0 < 1 by omega)]
      obtain ⟨f', a1, a2⟩ := w33_late (kd := 1) (pl := p) (v0 := v0) (u := u) hN hn (fun i hi => (hT i hi).1) hM hD (by omega) (by omega) K2 (p + 1) 0 f (by omega) (by omega) (by omega) (fun _ => rfl) (by omega) (fun i hi => absurd hi (Nat.not_lt_zero i)) hA
      obtain ⟨K1, rfl⟩ : ∃ K, K1 = K + 1 := ⟨K1 - 1, by omega⟩
      exact Or.inr ⟨1, p, _, _, f', by omega, by omega, e6_stop (kd := 1) (by omega) (by omega), a1, a2⟩
theorem both_at {N n : Nat} {v0 u : Int32} {g h : Nat → Int32} {t : Nat → Nat} (hN : 1000 ≤ N) (hn : n ≤ 400) (hT : TC g t n) (hM : TM h t n) : ∀ c p, p + c = n → ∀ m d gr f K1 K2, Dic m d → Ris gr d m → DA f 764 d m → n + 2 ≤ K1 + p → n + 3 ≤ K2 + p → Both N n m p v0 u g h f gr d (fX6_readWords_12 N 40 (nI n) g K1 (nI p) (nI m) gr 0 (-1)) (fX12_words_33 N h K2 (nI n) 0 (nI p) v0 0 (-1) u f) := by
  intro c
  induction c using Nat.strongRecOn with
  | ind c ih =>
    intro p hpc m d gr f K1 K2 hD hR hA hK1 hK2
    have hb : ∀ i, i < n → t i < 256 := fun i hi => (hT i hi).1
    have hle := lf_le t n p
    have hend := lf_end (t := t) (n := n) (p := p) (by omega)
    have ih' : ∀ p', p ≤ p' → p' < n → ∀ m d gr f K1 K2, Dic m d → Ris gr d m → DA f 764 d m → n + 2 ≤ K1 + (p' + 1) → n + 3 ≤ K2 + (p' + 1) → Both N n m (p' + 1) v0 u g h f gr d (fX6_readWords_12 N 40 (nI n) g K1 (nI (p' + 1)) (nI m) gr 0 (-1)) (fX12_words_33 N h K2 (nI n) 0 (nI (p' + 1)) v0 0 (-1) u f) := fun p' h1 h2 => ih (n - (p' + 1)) (by omega) (p' + 1) (by omega)
    obtain ⟨K2, rfl⟩ : ∃ K, K2 = K + 1 + lf t n p := ⟨K2 - 1 - lf t n p, by omega⟩
    have hw := w33_letters (N := N) (K := K2 + 1) (v0 := v0) (u := u) (fk := 0) (fp := -1) (f := f) hn hb hM (show p ≤ n by omega) (lf t n p) 0 (by omega)
    rw [show fX12_words_33 N h (K2 + 1 + lf t n p) (nI n) 0 (nI p) v0 0 (-1) u f = _ from hw]
    by_cases hL : lf t n p = 0
    · simp only [hL, Nat.add_zero] at hend ⊢
      have hre : fX12_rowEnds N 0 (-1) f h (nI (p - 0)) (nI 0) = some (0, -1, f) := by
        unfold fX12_rowEnds
        rw [if_pos (show nI 0 = 0 from rfl)]
      rw [w33_step hn hb hM (by omega) (by omega) hend hre]
      exact both_0 hN hn hT hM (by omega) hend (fun hlt => ih' p (Nat.le_refl _) hlt) hD hR hA hK1 (by omega)
    · obtain ⟨K1, rfl⟩ : ∃ K, K1 = K + 1 := ⟨K1 - 1, by omega⟩
      have hX : fX6_readWords_12 N 40 (nI n) g (K1 + 1) (nI p) (nI m) gr 0 (-1) = Option.bind (fX6_takeRow N 40 (nI n) g (nI m) gr (nI p) (nI (lf t n p))) fun r9 => if r9.1 = 2 then fX6_readWords_61 N 40 (nI n) g (fX6_readWords_12 N 40 (nI n) g K1) r9.1 (nI p + 7) (nI p) (nI (lf t n p)) r9.2.1 r9.2.2 0 (-1) else fX6_readWords_61 N 40 (nI n) g (fX6_readWords_12 N 40 (nI n) g K1) r9.1 (nI p) (nI p) (nI (lf t n p)) r9.2.1 r9.2.2 0 (-1) := by
        rw [fX6_readWords_12]
        unfold fX10_size fX2_isThere
        rw [Option.bind_some, if_neg (nI_ge (by omega) (by omega)), if_pos rfl, Option.bind_some, if_pos rfl, e6_lettersFrom hN hn hT (by omega), Option.bind_some]
      rw [hX]
      rcases row_ends (f := f) (gr := gr) hN hn hT hM (show 1 ≤ lf t n p by omega) (show p + lf t n p ≤ n by omega) (fun i hi => lf_is hi) hD hR hA with ⟨kd, v', g', f1, k1, k4, a1, a2, a3, a4, a5⟩ | ⟨m1, d1, g1, f1, a1, a2, a3, a4, a5, a6⟩
      · have a2' : fX12_rowEnds N 0 (-1) f h (nI (p + lf t n p - lf t n p)) (nI (lf t n p)) = some (nI kd, nI (if kd = 2 then p + 7 else p), f1) := by rw [Nat.add_sub_cancel]; exact a2
        have hpl : (if kd = 2 then p + 7 else p) < p + lf t n p := by
          split
          · have := a5 (by assumption); omega
          · omega
        rw [a1, Option.bind_some, w33_step hn hb hM (by omega) (by omega) hend a2', e12_fails_late k1 (by omega) hpl (by omega), Option.bind_some]
        dsimp only
        obtain ⟨f2, b1, b2⟩ := w33_late (kd := kd) (pl := if kd = 2 then p + 7 else p) (v0 := v0) (u := u) hN hn hb hM hD k1 (by omega) K2 (p + lf t n p + 1) 0 f1 (by omega) (by omega) (by omega) (fun _ => rfl) (by omega) (fun i hi => absurd hi (Nat.not_lt_zero i)) a4
        obtain ⟨K1, rfl⟩ : ∃ K, K1 = K + 1 := ⟨K1 - 1, by omega⟩
        have hk0 : ¬ nI kd = (0 : Int32) := fun z => by have := (n0 (by omega)).mp z; omega
        refine Or.inr ⟨kd, if kd = 2 then p + 7 else p, v', g', f2, k1, k4, ?_, ?_, a3.trans b2⟩
        · by_cases e2 : kd = 2
          · rw [if_pos (by rw [e2]; rfl), e6_61 _ (by omega), if_neg hk0, if_pos e2, show nI p + 7 = nI (p + 7) from nI_add p 7]
            exact e6_stop k1 k4
          · rw [if_neg (show ¬ nI kd = (2 : Int32) from fun z => e2 ((nI_eq (b := 2) (by omega) (by decide)).mp z)), e6_61 _ (by omega), if_neg hk0, if_neg e2]
            exact e6_stop k1 k4
        · rw [ite_self]; exact b1
      · have a2' : fX12_rowEnds N 0 (-1) f h (nI (p + lf t n p - lf t n p)) (nI (lf t n p)) = some (0, -1, f1) := by rw [Nat.add_sub_cancel]; exact a2
        rw [a1, Option.bind_some, w33_step hn hb hM (by omega) (by omega) hend a2']
        dsimp only
        rw [if_neg (by decide), e6_61 _ (by omega), if_pos rfl, if_neg (by omega)]
        exact Both.out a6 (both_0 hN hn hT hM (by omega) hend (fun hlt => ih' _ (by omega) hlt) a3 a4 a5 (by omega) (by omega))
/-- setDictionary, and what the reference does: promise 4 -/
theorem e11_setDictionary {N m : Nat} {v1 v2 v3 v4 v5 : Int32} {g2 g3 g4 g5 gr : Nat → Int64} {d : Nat → Nat} {a1 a2 a3 a4 a5 a6 : Nat} (hN : 1000 ≤ N) (hD : Dic m d) (hR : Ris gr d m) : ∃ gd gc n W F G, fX11_setDictionary N 40 v1 v2 g2 v3 g3 v4 g4 v5 g5 (nI m) gr a1 a2 a3 a4 a5 a6 = some (0, nI m, gd, nI m, gc, nI n, G, v4, g4) ∧ Ris gd d m ∧ Ris gc d m ∧ IX m d n W F ∧ Ris G (fun t => ky d (W t) (F t)) n := by
  have h40 := hD.1
  unfold fX11_setDictionary fX9_emptyBatch fX11_layIndex
  obtain ⟨gd, b1, b2⟩ := e7_copy (n0 := 40) (n1 := 40) (v0 := v2) (g0 := g2) hR (by omega) (by omega) (by omega)
  obtain ⟨gc, c1, c2⟩ := e7_copy (n0 := 40) (n1 := 40) (v0 := v3) (g0 := g3) b2 (by omega) (by omega) (by omega)
  obtain ⟨n, G, W, F, e1, e2, e3⟩ := e3_lay (n1 := 40) (v0 := v5) (g0 := g5) hN hD b2 h40 (by omega)
  rw [b1, Option.bind_some]
  dsimp only
  rw [c1, Option.bind_some, Option.bind_some, e1, Option.bind_some, Option.bind_some]
  exact ⟨gd, gc, n, W, F, G, rfl, b2, c2, e2, e3⟩
theorem op_words {N n : Nat} {e v2 v3 kd0 pl0 vm v4 v5 vr u kd1 pl1 : Int32} {g h f : Nat → Int32} {g2 g3 g4 g5 gr : Nat → Int64} {t : Nat → Nat} {a1 a2 a3 a4 a5 a6 : Nat} (hN : 1000 ≤ N) (hn : n ≤ 400) (hT : TC g t n) (hM : TM h t n) : (∃ m d gd gc ni W F G vr' gr' f', fX11_words N e (nI n) g v2 g2 v3 g3 kd0 pl0 vm v4 g4 v5 g5 vr gr a1 a2 a3 a4 a5 a6 = some (nI m, 0, 0, nI m, gd, nI m, gc, 0, -1, 0, nI ni, G, v4, g4, vr', gr', a4, a5, a6, a1, a2, a3) ∧ fX12_words N (nI n) kd1 pl1 u f h = some (nI m, 0, 0, -1, 0, f') ∧ Dic m d ∧ Ris gd d m ∧ Ris gc d m ∧ IX m d ni W F ∧ Ris G (fun t => ky d (W t) (F t)) ni ∧ DA f' 0 d m ∧ f' 321 = 0 ∧ (∀ j, 322 ≤ j → (j < 764 ∨ 1093 ≤ j) → f' j = f j)) ∨ (∃ kd pl vr' gr' f', fX11_words N e (nI n) g v2 g2 v3 g3 kd0 pl0 vm v4 g4 v5 g5 vr gr a1 a2 a3 a4 a5 a6 = some (-1, e, 0, v2, g2, v3, g3, kd, pl, vm, v4, g4, v5, g5, vr', gr', a1, a2, a3, a4, a5, a6) ∧ fX12_words N (nI n) kd1 pl1 u f h = some (-1, 0, kd, pl, u, f') ∧ Out f f' 764 329 ∧ ¬ kd = 0) := by
  have hA0 : DA (upd f 764 0) 764 (fun _ => 0) 0 := ⟨by rw [pk_us]; rfl, fun w hw => absurd hw (Nat.not_lt_zero w)⟩
  have hD0 : Dic 0 (fun _ => 0) := ⟨by omega, fun i j _ h2 => by omega, fun w hw => absurd hw (Nat.not_lt_zero w)⟩
  have hR0 : Ris gr (fun _ => 0) 0 := fun i hi => absurd hi (Nat.not_lt_zero i)
  have hO0 : Out f (upd f 764 0) 764 329 := Out.upd.wide (by omega) (by omega)
  have hB := both_at (v0 := 0) (u := u) hN hn hT hM n 0 (by omega) 0 _ gr _ N N hD0 hR0 hA0 (by omega) (by omega)
  unfold fX11_words fX6_readWords fX12_words fX7_clear fX2_set fX2_set_15
  rw [show (764 : Int32) = nI 764 from rfl, gi (by decide) (by decide), nI_clamp (by decide), Option.bind_some, if_pos rfl, Option.bind_some]
  dsimp only
  unfold fX10_shorten
  rw [if_neg (show ¬ (0 : Int32) < 0 by decide), if_pos (show (0 : Int32) ≤ nI n from nI_le (a := 0) (Nat.zero_le _) (by omega))]
  rcases hB with ⟨m, d, gr', f', K, x1, x2, x3, x4, x5, x6⟩ | ⟨kd, pl, v, gr', f', k1, k4, x1, x2, x3⟩
  · left
    rw [show fX6_readWords_12 N 40 (nI n) g N 0 0 gr 0 (-1) = _ from x1, show fX12_words_33 N h N (nI n) 0 0 0 0 (-1) u (upd f 764 0) = _ from x2, Option.bind_some, Option.bind_some]
    unfold fX2_isThere
    dsimp only
    rw [if_pos rfl, Option.bind_some, if_pos rfl]
    unfold fX4_clear fX7_size
    obtain ⟨gd, gc, ni, W, F, G, s1, s2, s3, s4, s5⟩ := e11_setDictionary (v1 := e) (v2 := v2) (v3 := v3) (v4 := v4) (v5 := v5) (g2 := g2) (g3 := g3) (g4 := g4) (g5 := g5) (a1 := a1) (a2 := a2) (a3 := a3) (a4 := a4) (a5 := a5) (a6 := a6) hN x3 x4
    rw [Option.bind_some, s1, Option.bind_some, Option.bind_some]
    rw [fX12_words_33, if_pos (nI_lt (by omega) (by omega)), if_pos (by decide), show fX12_copies N f' 764 0 321 = _ from e12_copies (s := 764) (t := 0) (c := 321) hN (by decide) (by decide) (by decide) (by decide), Option.bind_some]
    have hA1 := DA_cpy (f := f') (s := 764) (t := 0) (c := 321) x3.2.2 (by have := x3.1; omega) x5
    refine ⟨m, d, gd, gc, ni, W, F, G, _, _, upd (va_cpy f' f' 764 0 321) 321 0, rfl, ?_, x3, s2, s3, s4, s5, ?_, pk_us, fun j h1 h2 => ?_⟩
    · rw [show (321 : Int32) = nI 321 from rfl, gi (by decide) (by decide), nI_clamp (by decide), g0 (by decide), sb_cl0, pk_un (by decide), hA1.1]
    · exact (Out.upd (k := 321)).DA x3.2.2 (Or.inl (by have := x3.1; omega)) hA1
    · by_cases e : j = 321
      · omega
      · rw [pk_un e, pk_cpy_out (by omega), x6 j (by omega), hO0 j (by omega)]
  · right
    rw [show fX6_readWords_12 N 40 (nI n) g N 0 0 gr 0 (-1) = _ from x1, show fX12_words_33 N h N (nI n) 0 0 0 0 (-1) u (upd f 764 0) = _ from x2, Option.bind_some, Option.bind_some]
    unfold fX2_isThere
    dsimp only
    have hk0 : ¬ nI kd = (0 : Int32) := fun z => by have := (n0 (by omega)).mp z; omega
    rw [if_neg hk0, Option.bind_some, if_neg (by decide)]
    exact ⟨nI kd, nI pl, _, _, f', rfl, rfl, hO0.trans x3, hk0⟩
