/-- turn t begins with these signs -/
def bg (d W F : Nat → Nat) (s : Nat) (c : Nat → Nat) (t : Nat) : Bool := decide (s ≤ 8 ∧ ∀ i, i < s → td (d (W t)) (F t) i = c i)
theorem bl_iff {d : Nat → Nat} {m x t : Nat} (hI : Inc d m) (ht : t < m) : t < bl d m x ↔ d t < x := by
  constructor
  · exact bl_lt
  · intro h
    exact Classical.byContradiction fun q => by have := bl_ge hI (x := x) (i := t) (by omega) ht; omega
theorem bl_mono {d : Nat → Nat} {m x y : Nat} (hI : Inc d m) (h : x ≤ y) : bl d m x ≤ bl d m y := by
  have h1 := bl_le d m x
  refine Classical.byContradiction fun q => ?_
  have a := bl_lt (d := d) (m := m) (x := x) (i := bl d m y) (by omega)
  have b := bl_at (d := d) (m := m) (x := y) (by omega)
  omega
/-- the least number above all rows that begin so -/
def ab (s : Nat) (c : Nat → Nat) : Nat := if s ≤ 8 then hr s c + 32 ^ (8 - s) else hr s c
theorem ab_lt {s : Nat} {c : Nat → Nat} (hc : ∀ i, i < s → c i < 32) (h1 : 1 ≤ s) : ab s c < 2199023255552 := by
  have h := hr_lt hc
  unfold ab
  split
  · have : 32 ^ (8 - s) ≤ 32 ^ 7 := Nat.pow_le_pow_right (by decide) (by omega)
    have e : (32 : Nat) ^ 7 = 34359738368 := by decide
    omega
  · omega
theorem rg {m n s t : Nat} {d W F c : Nat → Nat} (hX : IX m d n W F) (hD : Dic m d) (hc : ∀ i, i < s → c i < 32) (h1 : 1 ≤ s) (ht : t < n) : (bl (fun t => ky d (W t) (F t)) n (hr s c * 512) ≤ t ∧ t < bl (fun t => ky d (W t) (F t)) n (ab s c * 512)) ↔ bg d W F s c t = true := by
  obtain ⟨w1, w2⟩ := IX_w hX ht
  have h40 := hD.1
  have l7 := (hD.2.2 _ w1).2.2.1
  have hI := hX.2.2.1
  have i1 := bl_iff (x := hr s c * 512) hI ht
  have i2 := bl_iff (x := ab s c * 512) hI ht
  have k1 : ky d (W t) (F t) < hr s c * 512 ↔ tr (d (W t)) (F t) < hr s c := by unfold ky; omega
  have k2 : ky d (W t) (F t) < ab s c * 512 ↔ tr (d (W t)) (F t) < ab s c := by unfold ky; omega
  rw [k1] at i1; rw [k2] at i2
  have htr := tr_lt (d (W t)) (F t)
  unfold bg
  rw [decide_eq_true_eq]
  by_cases hs : s ≤ 8
  · have r := hr_range (x := tr (d (W t)) (F t)) hc h1 hs htr
    have e : ab s c = hr s c + 32 ^ (8 - s) := by unfold ab; rw [if_pos hs]
    rw [e] at i2
    constructor
    · rintro ⟨a, b⟩
      refine ⟨hs, fun i hi => ?_⟩
      have := (r.mp ⟨by omega, i2.mp (by rw [e] at b; exact b)⟩) i hi
      rw [dg_tr _ _ (by omega)] at this
      exact this
    · rintro ⟨-, b⟩
      obtain ⟨a1, a2⟩ := r.mpr (fun i hi => by rw [dg_tr _ _ (by omega)]; exact b i hi)
      refine ⟨by omega, by rw [e]; exact i2.mpr a2⟩
  · have e : ab s c = hr s c := by unfold ab; rw [if_neg hs]
    rw [e] at i2 ⊢
    constructor
    · rintro ⟨a, b⟩; omega
    · rintro ⟨a, -⟩; omega
theorem ct_range {p : Nat → Bool} {n lo hi : Nat} (h1 : lo ≤ hi) (h2 : hi ≤ n) (h : ∀ t, t < n → ((lo ≤ t ∧ t < hi) ↔ p t = true)) : fb_ct p n = hi - lo := by
  have e : n = lo + ((hi - lo) + (n - hi)) := by omega
  rw [e, fb_ct_split, fb_ct_split]
  have a1 : fb_ct p lo = 0 := fb_ct_zero.mpr (fun k hk => Bool.eq_false_iff.mpr (fun q => by have := (h k (by omega)).mpr q; omega))
  have a2 : fb_ct (fun k => p (lo + k)) (hi - lo) = hi - lo := fb_ct_all.mpr (fun k hk => (h (lo + k) (by omega)).mp ⟨by omega, by omega⟩)
  have a3 : fb_ct (fun k => p (lo + (hi - lo + k))) (n - hi) = 0 := fb_ct_zero.mpr (fun k hk => Bool.eq_false_iff.mpr (fun q => by have := (h (lo + (hi - lo + k)) (by omega)).mpr q; omega))
  omega
/-- Index.from -/
theorem e3_from {N m n x : Nat} {G : Nat → Int64} {d W F : Nat → Nat} (hN : 1000 ≤ N) (hD : Dic m d) (hX : IX m d n W F) (hG : Ris G (fun t => ky d (W t) (F t)) n) (hx : x < 2199023255552) : fX3_from N (nI n) G (lN x) = some (nI (bl (fun t => ky d (W t) (F t)) n (x * 512))) := by
  have hn := IX_n hD hX
  unfold fX3_from
  have e : lN x <<< (Int32.toInt64 (9 : Int32) &&& 63) = lN (x * 512) := shlL x (k := 9) (by decide)
  rw [e, e7_below (by omega) hG hX.2.2.1 (PX_sma hD hX (Nat.le_refl m) (Or.inl rfl)) (by omega) hn (by omega), Option.bind_some]
theorem e3_to {N m n s : Nat} {G : Nat → Int64} {d W F c : Nat → Nat} (hN : 1000 ≤ N) (hD : Dic m d) (hX : IX m d n W F) (hG : Ris G (fun t => ky d (W t) (F t)) n) (hc : ∀ i, i < s → c i < 32) (h1 : 1 ≤ s) (hs : s < 100) : fX3_to N (nI n) G (lN (hr s c)) (nI s) = some (nI (bl (fun t => ky d (W t) (F t)) n (ab s c * 512))) := by
  unfold fX3_to
  rw [e8_above h1 (by omega), Option.bind_some]
  have e : (if s ≤ 8 then hr s c + 32 ^ (8 - s) else hr s c) = ab s c := rfl
  rw [e, e3_from hN hD hX hG (ab_lt hc h1), Option.bind_some]
theorem ab_ge {s : Nat} {c : Nat → Nat} : hr s c ≤ ab s c := by
  unfold ab; split
  · exact Nat.le_add_right _ _
  · exact Nat.le_refl _
/-- so many turns begin with it -/
theorem rg_ct {m n s : Nat} {d W F c : Nat → Nat} (hX : IX m d n W F) (hD : Dic m d) (hc : ∀ i, i < s → c i < 32) (h1 : 1 ≤ s) : fb_ct (bg d W F s c) n = bl (fun t => ky d (W t) (F t)) n (ab s c * 512) - bl (fun t => ky d (W t) (F t)) n (hr s c * 512) := by
  have := ab_ge (s := s) (c := c)
  exact ct_range (bl_mono hX.2.2.1 (by omega)) (bl_le _ _ _) (fun t ht => rg hX hD hc h1 ht)
/-- a word is among the words of some turns -/
def ofB (p : Nat → Bool) (W : Nat → Nat) (n w : Nat) : Bool := decide (∃ t, t < n ∧ (W t = w ∧ p t = true))
theorem ofB_iff {p : Nat → Bool} {W : Nat → Nat} {n w : Nat} : ofB p W n w = true ↔ ∃ t, t < n ∧ W t = w ∧ p t = true := by unfold ofB; rw [decide_eq_true_eq]
/-- Index.wordsThatTurnTo -/
theorem e3_words_l {N m n lo hi : Nat} {G : Nat → Int64} {x : Int64} {y : Int32} {d W F : Nat → Nat} (hD : Dic m d) (hX : IX m d n W F) (hG : Ris G (fun t => ky d (W t) (F t)) n) (hhi : hi ≤ n) : ∀ K t S, lo ≤ t → t ≤ hi → hi + 1 ≤ K + t → S < 1099511627776 → (∀ w, S.testBit w = decide (∃ j, j < t ∧ (lo ≤ j ∧ W j = w))) → ∃ S', fX3_wordsThatTurnTo_18 N (nI n) G x y K (lN S) (nI hi) (nI t) = some (lN S') ∧ S' < 1099511627776 ∧ ∀ w, S'.testBit w = decide (∃ j, j < hi ∧ (lo ≤ j ∧ W j = w)) := by
  have hn := IX_n hD hX
  have h40 := hD.1
  intro K
  induction K with
  | zero => intro t S h1 h2 h3; omega
  | succ K ih =>
    intro t S h1 h2 h3 hS hb
    rw [fX3_wordsThatTurnTo_18]
    by_cases ht : hi ≤ t
    · rw [if_pos (nI_le ht (by omega))]
      have e : t = hi := by omega
      subst e
      exact ⟨S, rfl, hS, hb⟩
    · obtain ⟨w1, w2⟩ := IX_w hX (t := t) (by omega)
      rw [if_neg (nI_ge (by omega) (by omega)), e3_wordAt hD hX hG (by omega), Option.bind_some, e0_bit (by omega), Option.bind_some, fb_orL, nI_1]
      have hp : 2 ^ W t < 2 ^ 40 := Nat.pow_lt_pow_right (by decide) (by omega)
      refine ih (t + 1) _ (by omega) (by omega) (by omega) (or_lt40 hS hp) (fun w => ?_)
      rw [Nat.testBit_or, hb w, Nat.testBit_two_pow, Bool.eq_iff_iff]
      simp only [Bool.or_eq_true, decide_eq_true_eq]
      constructor
      · rintro (⟨j, j1, j2, j3⟩ | h)
        · exact ⟨j, by omega, j2, j3⟩
        · exact ⟨t, by omega, h1, h⟩
      · rintro ⟨j, j1, j2, j3⟩
        by_cases q : j = t
        · exact Or.inr (by rw [← q]; exact j3)
        · exact Or.inl ⟨j, by omega, j2, j3⟩
theorem e3_words {N m n s : Nat} {G : Nat → Int64} {d W F c : Nat → Nat} (hN : 1000 ≤ N) (hD : Dic m d) (hX : IX m d n W F) (hG : Ris G (fun t => ky d (W t) (F t)) n) (hc : ∀ i, i < s → c i < 32) (h1 : 1 ≤ s) (hs : s < 100) : fX3_wordsThatTurnTo N (nI n) G (lN (hr s c)) (nI s) = some (lN (bs (ofB (bg d W F s c) W n) m)) := by
  have hn := IX_n hD hX
  have h40 := hD.1
  have hhr := hr_lt hc
  unfold fX3_wordsThatTurnTo
  rw [e3_to hN hD hX hG hc h1 hs, Option.bind_some, e3_from hN hD hX hG (by omega), Option.bind_some]
  have hlh : bl (fun t => ky d (W t) (F t)) n (hr s c * 512) ≤ bl (fun t => ky d (W t) (F t)) n (ab s c * 512) := bl_mono hX.2.2.1 (by have := ab_ge (s := s) (c := c); omega)
  have hhi := bl_le (fun t => ky d (W t) (F t)) n (ab s c * 512)
  obtain ⟨S', a1, a2, a3⟩ := e3_words_l (N := N) (lo := bl (fun t => ky d (W t) (F t)) n (hr s c * 512)) (x := lN (hr s c)) (y := nI s) hD hX hG hhi N (bl (fun t => ky d (W t) (F t)) n (hr s c * 512)) 0 (Nat.le_refl _) hlh (by omega) (by decide) (fun w => by
    rw [Nat.zero_testBit]
    symm
    rw [decide_eq_false_iff_not]
    rintro ⟨j, j1, j2, -⟩; omega)
  rw [show (0 : Int64) = lN 0 from rfl, a1]
  congr 2
  apply Nat.eq_of_testBit_eq
  intro w
  rw [a3 w, bs_bit, Bool.eq_iff_iff]
  simp only [decide_eq_true_eq, Bool.and_eq_true, ofB_iff]
  constructor
  · rintro ⟨j, j1, j2, j3⟩
    have hj : j < n := by omega
    have w1 := (IX_w hX hj).1
    exact ⟨by omega, j, hj, j3, (rg hX hD hc h1 hj).mp ⟨j2, j1⟩⟩
  · rintro ⟨-, j, j1, j2, j3⟩
    obtain ⟨b1, b2⟩ := (rg hX hD hc h1 j1).mpr j3
    exact ⟨j, b2, b1, j2⟩
theorem e12_signAt_out {x r k i : Nat} {f : Nat → Int32} (hx : WA f x r) (hl : ln r ≤ 7) (bx : x + 8 ≤ 5228) (hi : 8 ≤ i) (hi2 : i < 1000) : fX12_signAt f (nI x) (nI k) (nI i) = some 0 := by
  unfold fX12_signAt
  rw [gi (by omega) (by decide), nI_clamp (by omega), hx.1, if_neg (nI_ge (by omega) (by omega))]
/-- a run as the model holds it -/
def RM (ps rf rl : Nat → Int32) (ro s o : Nat) (c : Nat → Nat) : Prop := rl ro = nI s ∧ rf ro = nI o ∧ o + s ≤ 40 ∧ ∀ i, i < s → ps (o + i) = nI (sg (c i))
theorem e12_begins_l {N m n t ro s o : Nat} {f tw tf ps rf rl : Nat → Int32} {d W F c : Nat → Nat} (hD : Dic m d) (hA : DA f 0 d m) (hX : IX m d n W F) (hT : TA tw tf W F n) (ht : t < n) (hro : ro < 40) (hR : RM ps rf rl ro s o c) (hc : ∀ i, i < s → 1 ≤ c i ∧ c i < 32) : ∀ K i, i ≤ s → s + 1 ≤ K + i → (∀ j, j < i → j < 8 ∧ td (d (W t)) (F t) j = c j) → fX12_begins_3 N f tw tf ps rf rl 0 (nI t) (nI ro) K (nI i) = some (if bg d W F s c t then 1 else 0) := by
  have hn := IX_n hD hX
  have h40 := hD.1
  obtain ⟨w1, w2⟩ := IX_w hX ht
  have hww := hD.2.2 _ w1
  have l7 := hww.2.2.1
  have hx := hA.2 _ w1
  obtain ⟨t1, t2⟩ := hT t ht
  obtain ⟨r1, r2, r3, r4⟩ := hR
  intro K
  induction K with
  | zero => intro i h1 h2; omega
  | succ K ih =>
    intro i h1 h2 h3
    rw [fX12_begins_3, gi (by omega) (by decide), nI_clamp (by omega), r1]
    by_cases hi : s ≤ i
    · have e : i = s := by omega
      rw [if_pos (nI_le hi (by omega))]
      have : bg d W F s c t = true := by
        unfold bg; rw [decide_eq_true_eq]
        refine ⟨?_, fun j hj => (h3 j (by omega)).2⟩
        by_cases h0 : s = 0
        · omega
        · have := (h3 (s - 1) (by omega)).1; omega
      rw [this]; rfl
    · have hci := hc i (by omega)
      have g1 := sg_lt hci.2
      rw [if_neg (nI_ge (by omega) (by omega)), gi (by omega) (by decide), nI_clamp (by omega), t1, e12_wordAt0, Option.bind_some, gi2 (by omega) (by decide), t2]
      by_cases h8 : i < 8
      · have t3 := td_lt (d (W t)) (F t) i
        have g2 := sg_lt t3
        rw [e12_signAt hx hww (by omega) w2 h8, Option.bind_some, gi2 (by omega) (by decide), r2, nI_add, gi (by omega) (by decide), nI_clamp (by omega), r4 i (by omega), nI_1]
        by_cases he : td (d (W t)) (F t) i = c i
        · rw [if_pos (by rw [he])]
          exact ih (i + 1) (by omega) (by omega) (fun j hj => by
            by_cases q : j = i
            · rw [q]; exact ⟨h8, he⟩
            · exact h3 j (by omega))
        · rw [if_neg (fun z => he (sg_inj ((nI_eq (by omega) (by omega)).mp z)))]
          have : bg d W F s c t = false := by
            unfold bg; rw [decide_eq_false_iff_not]
            exact fun z => he (z.2 i (by omega))
          rw [this]; rfl
      · have hsgc : sg (c i) ≠ 0 := fun z => by
          have := sg_inj (a := c i) (b := 0) (by rw [z]; rfl)
          omega
        rw [e12_signAt_out hx l7 (by omega) (by omega) (by omega), Option.bind_some, gi2 (by omega) (by decide), r2, nI_add, gi (by omega) (by decide), nI_clamp (by omega), r4 i (by omega), nI_1, if_neg (fun z => hsgc ((n0 (by omega)).mp z.symm))]
        have : bg d W F s c t = false := by
          unfold bg; rw [decide_eq_false_iff_not]
          exact fun z => by omega
        rw [this]; rfl
theorem e12_begins {N m n t ro s o : Nat} {f tw tf ps rf rl : Nat → Int32} {d W F c : Nat → Nat} (hN : 1000 ≤ N) (hD : Dic m d) (hA : DA f 0 d m) (hX : IX m d n W F) (hT : TA tw tf W F n) (ht : t < n) (hro : ro < 40) (hR : RM ps rf rl ro s o c) (hc : ∀ i, i < s → 1 ≤ c i ∧ c i < 32) : fX12_begins N f tw tf ps rf rl 0 (nI t) (nI ro) = some (if bg d W F s c t then 1 else 0) := by
  have := hR.2.2.1
  unfold fX12_begins
  exact e12_begins_l hD hA hX hT ht hro hR hc N 0 (by omega) (by omega) (fun j hj => by omega)
theorem e12_rangeOf_l {N m n ro s o : Nat} {f tw tf ps rf rl : Nat → Int32} {d W F c : Nat → Nat} (hN : 1000 ≤ N) (hD : Dic m d) (hA : DA f 0 d m) (hX : IX m d n W F) (hT : TA tw tf W F n) (hro : ro < 40) (hR : RM ps rf rl ro s o c) (hc : ∀ i, i < s → 1 ≤ c i ∧ c i < 32) : ∀ K t, t ≤ n → n + 1 ≤ K + t → fX12_rangeOf_4 N (nI n) f tw tf ps rf rl (nI ro) K (nI (fb_ct (bg d W F s c) t)) (nI t) = some (nI (fb_ct (bg d W F s c) n)) := by
  have hn := IX_n hD hX
  intro K
  induction K with
  | zero => intro t h1 h2; omega
  | succ K ih =>
    intro t h1 h2
    rw [fX12_rangeOf_4]
    by_cases ht : n ≤ t
    · rw [if_pos (nI_le ht (by omega)), show t = n by omega]
    · rw [if_neg (nI_ge (by omega) (by omega)), e12_begins hN hD hA hX hT (by omega) hro hR hc, Option.bind_some, nI_1, nI_1, show nI (fb_ct (bg d W F s c) t) + 0 = nI (fb_ct (bg d W F s c) t) from nI_add _ 0]
      have ih' := ih (t + 1) (by omega) (by omega)
      rw [fb_ct_succ] at ih'
      cases hb : bg d W F s c t with
      | false => rw [hb] at ih'; rw [if_pos (ib0.mpr rfl)]; exact ih'
      | true => rw [hb] at ih'; rw [if_neg (by decide)]; exact ih'
theorem e12_rangeOf {N m n ro s o : Nat} {f tw tf ps rf rl : Nat → Int32} {d W F c : Nat → Nat} (hN : 1000 ≤ N) (hD : Dic m d) (hA : DA f 0 d m) (hX : IX m d n W F) (hT : TA tw tf W F n) (hro : ro < 40) (hR : RM ps rf rl ro s o c) (hc : ∀ i, i < s → 1 ≤ c i ∧ c i < 32) : fX12_rangeOf N (nI n) f tw tf ps rf rl (nI ro) = some (nI (fb_ct (bg d W F s c) n)) := by
  have hn := IX_n hD hX
  unfold fX12_rangeOf
  exact e12_rangeOf_l hN hD hA hX hT hro hR hc N 0 (by omega) (by omega)
theorem e12_isOf_l {N m n ro s o w : Nat} {f tw tf ps rf rl : Nat → Int32} {d W F c : Nat → Nat} (hN : 1000 ≤ N) (hD : Dic m d) (hA : DA f 0 d m) (hX : IX m d n W F) (hT : TA tw tf W F n) (hro : ro < 40) (hR : RM ps rf rl ro s o c) (hc : ∀ i, i < s → 1 ≤ c i ∧ c i < 32) (hw : w < 1000) : ∀ K t, t ≤ n → n + 1 ≤ K + t → (∀ j, j < t → ¬ (W j = w ∧ bg d W F s c j = true)) → fX12_isOf_2 N (nI n) f tw tf ps rf rl (nI w) (nI ro) K (nI t) = some (if ofB (bg d W F s c) W n w then 1 else 0) := by
  have hn := IX_n hD hX
  have h40 := hD.1
  intro K
  induction K with
  | zero => intro t h1 h2; omega
  | succ K ih =>
    intro t h1 h2 h3
    rw [fX12_isOf_2]
    by_cases ht : n ≤ t
    · have : ofB (bg d W F s c) W n w = false := by
        rw [Bool.eq_false_iff]
        intro z
        obtain ⟨j, j1, j2, j3⟩ := ofB_iff.mp z
        exact h3 j (by omega) ⟨j2, j3⟩
      rw [if_pos (nI_le ht (by omega)), this]; rfl
    · obtain ⟨t1, t2⟩ := hT t (by omega)
      have w1 := (IX_w hX (t := t) (by omega)).1
      rw [if_neg (nI_ge (by omega) (by omega)), gi (by omega) (by decide), nI_clamp (by omega), t1, nI_1]
      by_cases hwt : W t = w
      · rw [if_pos (by rw [hwt]), e12_begins hN hD hA hX hT (by omega) hro hR hc, Option.bind_some]
        cases hb : bg d W F s c t with
        | true =>
          have : ofB (bg d W F s c) W n w = true := ofB_iff.mpr ⟨t, by omega, hwt, hb⟩
          rw [if_neg (by decide), this]; rfl
        | false =>
          rw [if_pos (ib0.mpr rfl)]
          exact ih (t + 1) (by omega) (by omega) (fun j hj => by
            by_cases q : j = t
            · rw [q, hb]; exact fun z => by cases z.2
            · exact h3 j (by omega))
      · rw [if_neg (fun z => hwt ((nI_eq (by omega) (by omega)).mp z))]
        exact ih (t + 1) (by omega) (by omega) (fun j hj => by
          by_cases q : j = t
          · rw [q]; exact fun z => hwt z.1
          · exact h3 j (by omega))
theorem e12_isOf {N m n ro s o w : Nat} {f tw tf ps rf rl : Nat → Int32} {d W F c : Nat → Nat} (hN : 1000 ≤ N) (hD : Dic m d) (hA : DA f 0 d m) (hX : IX m d n W F) (hT : TA tw tf W F n) (hro : ro < 40) (hR : RM ps rf rl ro s o c) (hc : ∀ i, i < s → 1 ≤ c i ∧ c i < 32) (hw : w < 1000) : fX12_isOf N (nI n) f tw tf ps rf rl (nI w) (nI ro) = some (if ofB (bg d W F s c) W n w then 1 else 0) := by
  have hn := IX_n hD hX
  unfold fX12_isOf
  exact e12_isOf_l hN hD hA hX hT hro hR hc hw N 0 (by omega) (by omega) (fun j hj => by omega)
