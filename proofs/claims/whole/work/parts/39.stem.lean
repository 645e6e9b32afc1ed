/-! ===== the stem ===== -/
theorem srch_kth {p : Nat → Bool} : ∀ d w c i, w ≤ i → i < w + d → p i = true → c + fb_ct (fun j => p (w + j)) (i - w) < 2147483648 → srch p (nI (c + fb_ct (fun j => p (w + j)) (i - w))) d w c = nI i
  | 0, w, c, i, h1, h2, _, _ => by omega
  | d + 1, w, c, i, h1, h2, hp, hb => by
    rw [srch]
    by_cases hi : i = w
    · subst hi
      rw [Nat.sub_self, hp, if_pos rfl]
      show (if nI c = nI (c + 0) then nI i else _) = nI i
      rw [if_pos (show nI c = nI (c + 0) from rfl)]
    · have e : fb_ct (fun j => p (w + j)) (i - w) = (if p w then 1 else 0) + fb_ct (fun j => p (w + 1 + j)) (i - (w + 1)) := by
        rw [show i - w = 1 + (i - (w + 1)) by omega, fb_ct_split]
        congr 1
        · show 0 + (if p (w + 0) then 1 else 0) = _
          rw [Nat.zero_add, Nat.add_zero]
        · exact fb_ct_cong (fun k _ => by rw [Nat.add_assoc])
      cases hw : p w with
      | true =>
        rw [hw] at e
        rw [if_pos rfl] at e
        rw [if_pos rfl, if_neg]
        · rw [e, ← Nat.add_assoc]
          exact srch_kth d (w + 1) (c + 1) i (by omega) (by omega) hp (by omega)
        · rw [e]
          intro z
          have := (nI_eq (by omega) (by omega)).mp z
          omega
      | false =>
        rw [hw] at e
        rw [if_neg (by decide), Nat.zero_add] at e
        rw [if_neg (by decide), e]
        exact srch_kth d (w + 1) c i (by omega) (by omega) hp (by omega)
theorem srch_at {p : Nat → Bool} {m i : Nat} (hm : m ≤ 40) (hi : i < m) (hp : p i = true) : srch p (nI (fb_ct p i)) m 0 0 = nI i := by
  have hc : fb_ct p i ≤ i := fb_ct_le p i
  have e : 0 + fb_ct (fun j => p (0 + j)) (i - 0) = fb_ct p i := by
    rw [Nat.zero_add, Nat.sub_zero]; exact fb_ct_cong (fun k _ => by rw [Nat.zero_add])
  have h := srch_kth (p := p) m 0 0 i (by omega) (by omega) hp (by omega)
  rw [e] at h
  exact h
/-- how many letters of r begin s too -/
def lc (r s : Nat) : Nat := fa_first (fun i => !(decide (i < ln r) && dg r i == dg s i)) 8
theorem lc_le (r s : Nat) : lc r s ≤ 8 := fa_first_le _ 8
theorem lc_no {r s i : Nat} (h : i < lc r s) : i < ln r ∧ dg r i = dg s i := by
  have := fa_first_no (fun i => !(decide (i < ln r) && dg r i == dg s i)) 8 i h
  simpa using this
theorem lc_yes {r s : Nat} (h : lc r s < 8) : ¬ (lc r s < ln r ∧ dg r (lc r s) = dg s (lc r s)) := by
  have := fa_first_yes (fun i => !(decide (i < ln r) && dg r i == dg s i)) 8 h
  simp only [Bool.not_eq_true', Bool.and_eq_false_iff, decide_eq_false_iff_not, beq_eq_false_iff_ne] at this
  intro q
  rcases this with t | t
  · exact t q.1
  · exact t q.2
theorem lc_lt {r s : Nat} (h : ln r ≤ 7) : lc r s ≤ ln r := by
  have h8 := lc_le r s
  rcases Nat.lt_or_ge (ln r) (lc r s) with q | q
  · exact absurd (lc_no q).1 (Nat.lt_irrefl _)
  · exact q
theorem lc_self {r : Nat} (h : ln r ≤ 7) : lc r r = ln r := by
  have h1 := lc_lt (s := r) h
  rcases Nat.lt_or_ge (lc r r) (ln r) with q | q
  · exact absurd ⟨q, rfl⟩ (lc_yes (by omega))
  · omega
/-- the first signs as a number -/
theorem pre_eq {r s j : Nat} (hj : j < 8) (h : r / 32 ^ (7 - j) = s / 32 ^ (7 - j)) : ∀ i, i ≤ j → dg r i = dg s i := by
  intro i hi
  rw [dg_De (by omega), dg_De (by omega)]
  have e : ∀ x : Nat, De x (7 - i) = De (x / 32 ^ (7 - j)) (j - i) := fun x => by rw [De_div]; congr 1; omega
  rw [e, e, h]
theorem pre_of {r s : Nat} (hr : r < 1099511627776) (hs : s < 1099511627776) : ∀ j, j < 8 → (∀ i, i ≤ j → dg r i = dg s i) → r / 32 ^ (7 - j) = s / 32 ^ (7 - j) := by
  intro j
  induction j with
  | zero =>
    intro _ h
    have h0 := h 0 (Nat.le_refl 0)
    unfold dg at h0
    rw [if_pos (by decide), if_pos (by decide)] at h0
    have e : (32 : Nat) ^ (7 - 0) = 34359738368 := by decide
    rw [e] at h0 ⊢; omega
  | succ j ih =>
    intro hj h
    have ih' := ih (by omega) (fun i hi => h i (by omega))
    have e1 : ∀ x : Nat, x / 32 ^ (7 - j) = x / 32 ^ (7 - (j + 1)) / 32 := fun x => by
      rw [Nat.div_div_eq_div_mul, ← Nat.pow_succ]; congr 2; omega
    have hd := h (j + 1) (Nat.le_refl _)
    rw [dg_De hj, dg_De hj] at hd
    unfold De at hd
    rw [e1, e1] at ih'
    omega
/-- between two words that begin alike all begin so -/
theorem lc_anti {r s t : Nat} (hr : r < 1099511627776) (hs : s < 1099511627776) (ht : t < 1099511627776) (hl : ln r ≤ 7) (h1 : r ≤ s) (h2 : s ≤ t) : lc r t ≤ lc r s := by
  rcases Nat.lt_or_ge (lc r s) (lc r t) with q | q
  · have ht8 := lc_le r t
    have hp := pre_of hr ht (lc r s) (by omega) (fun i hi => (lc_no (s := t) (by omega)).2)
    have m1 : r / 32 ^ (7 - lc r s) ≤ s / 32 ^ (7 - lc r s) := Nat.div_le_div_right h1
    have m2 : s / 32 ^ (7 - lc r s) ≤ t / 32 ^ (7 - lc r s) := Nat.div_le_div_right h2
    have he := pre_eq (r := r) (s := s) (j := lc r s) (by omega) (by omega) (lc r s) (Nat.le_refl _)
    exact absurd ⟨(lc_no q).1, he⟩ (lc_yes (by omega))
  · exact q
/-- the class: how far two words are alike -/
theorem e11_stem_l {N r s : Nat} {M : Int32} {g : Nat → Int64} {x : Int64} (hN : 9 ≤ N) (hr : r < 1099511627776) (hs : s < 1099511627776) (hl : ln r ≤ 7) : ∀ K i, i ≤ lc r s → 9 ≤ K + i → fX11_stem_50 N M g x K (lN r) (lN s) (nI i) = some (nI (lc r s)) := by
  have h8 := lc_lt (s := s) hl
  intro K
  induction K with
  | zero => intro i h1 h2; omega
  | succ K ih =>
    intro i h1 h2
    rw [fX11_stem_50, e8_length hN hr, Option.bind_some]
    by_cases hi : ln r ≤ i
    · rw [if_pos (nI_le hi (by omega)), show i = lc r s by omega]
    · rw [if_neg (nI_ge (by omega) (by omega)), e8_codeAt hr (by omega), Option.bind_some, e8_codeAt hs (by omega), Option.bind_some, nI_1]
      have d1 := dg_lt r i; have d2 := dg_lt s i
      by_cases hd : dg r i = dg s i
      · rw [if_pos (by rw [hd])]
        have : i ≠ lc r s := fun z => absurd ⟨by omega, by rw [← z]; exact hd⟩ (lc_yes (r := r) (s := s) (by omega))
        exact ih (i + 1) (by omega) (by omega)
      · rw [if_neg (fun z => hd ((nI_eq (by omega) (by omega)).mp z))]
        have : ¬ i < lc r s := fun z => hd (lc_no z).2
        rw [show i = lc r s by omega]
/-- the model: the same, from a row that was found -/
theorem e12_stem_41 {N x y r s n w : Nat} {f : Nat → Int32} (rc : Int32 → Int32 → Int32 → Option Int32) (hx : WA f x r) (hy : WA f y s) (wr : isW r) (ws : isW s) (bx : x + 8 ≤ 5228) (by_ : y + 8 ≤ 5228) (hn : n ≤ ln r) (hls : lc r s ≤ n) : ∀ K i, i ≤ lc r s → 9 ≤ K + i → fX12_stem_41 N f rc K (nI x) (nI n) (nI w) (nI y) (nI i) = rc (nI x) (nI (lc r s)) (nI (w + 1)) := by
  have r7 := wr.2.2.1; have s7 := ws.2.2.1
  have h8 := lc_lt (s := s) r7
  have fin : fX12_stem_95 N f rc (nI x) (nI w) (nI y) (nI (lc r s)) = rc (nI x) (nI (lc r s)) (nI (w + 1)) := by
    unfold fX12_stem_95 fX12_stem_111
    rw [if_pos (nI_pos' (by omega)), if_pos (nI_pos' (by omega)), nI_1]
  intro K
  induction K with
  | zero => intro i h1 h2; omega
  | succ K ih =>
    intro i h1 h2
    rw [fX12_stem_41, if_neg (nI_pos (by omega))]
    by_cases hi : n ≤ i
    · rw [if_pos (nI_le hi (by omega)), show i = lc r s by omega]; exact fin
    · rw [if_neg (nI_ge (by omega) (by omega)), gi (by omega) (by decide), nI_clamp (by omega), hy.1]
      by_cases his : ln s ≤ i
      · rw [if_pos (nI_le his (by omega))]
        have : ¬ i < lc r s := fun z => by
          have a := (lc_no z).2
          rw [ws.2.2.2.2 i his] at a
          exact ln_no (show i < ln r by omega) a
        rw [show i = lc r s by omega]; exact fin
      · rw [if_neg (nI_ge (by omega) (by omega)), nI_1, nI_1, nI_add, nI_add, gi (by omega) (by decide), gi (by omega) (by decide), nI_clamp (by omega), nI_clamp (by omega), hx.2 i (by omega), hy.2 i (by omega), nI_1]
        have g1 := sg_lt (dg_lt r i); have g2 := sg_lt (dg_lt s i)
        by_cases hd : dg r i = dg s i
        · rw [if_pos (by rw [hd])]
          have : i ≠ lc r s := fun z => absurd ⟨by omega, by rw [← z]; exact hd⟩ (lc_yes (r := r) (s := s) (by omega))
          exact ih (i + 1) (by omega) (by omega)
        · rw [if_neg (fun z => hd (sg_inj ((nI_eq (by omega) (by omega)).mp z)))]
          have : ¬ i < lc r s := fun z => hd (lc_no z).2
          rw [show i = lc r s by omega]; exact fin
/-- the model's loop: with answer a found first and z last -/
theorem e12_stem_l {N m P a : Nat} {f : Nat → Int32} {d q : Nat → Nat} (hN : 1000 ≤ N) (hD : Dic m d) (hA : DA f 0 d m) (hq : PT q P) (hP : PA f 430 q P) (ha : a < m) : ∀ K w z, w ≤ m → m + 1 ≤ K + w → a ≤ z → z < w → ∃ z', fX12_stem_6 N f K (nI (0 + 1 + 8 * a)) (nI (lc (d a) (d z))) (nI w) = some (nI (lc (d a) (d z'))) ∧ z ≤ z' ∧ z' < m ∧ (z' = z ∨ mt q P (d z') = true) ∧ ∀ j, z' < j → j < m → w ≤ j → mt q P (d j) = false := by
  have h40 := hD.1
  have hwa := hD.2.2 a ha
  have a7 := hwa.2.2.1
  intro K
  induction K with
  | zero => intro w z h1 h2; omega
  | succ K ih =>
    intro w z h1 h2 h3 h4
    rw [fX12_stem_6, g0 (by decide), sb_cl0, hA.1]
    by_cases hw : m ≤ w
    · rw [if_pos (nI_le hw (by omega))]
      exact ⟨z, rfl, Nat.le_refl z, by omega, Or.inl rfl, fun j _ _ _ => by omega⟩
    · have hwm : w < m := by omega
      have hww := hD.2.2 w hwm
      rw [if_neg (nI_ge (by omega) (by omega)), e12_wordAt0, Option.bind_some, show (430 : Int32) = nI 430 from rfl, e12_meets hN (by omega) hq hP (hA.2 w hwm) (by omega) hww.2.2.1, Option.bind_some, nI_1]
      cases hm : mt q P (d w) with
      | false =>
        rw [if_pos (ib0.mpr rfl)]
        obtain ⟨z', b1, b2, b3, b4, b5⟩ := ih (w + 1) z (by omega) (by omega) h3 (by omega)
        refine ⟨z', b1, b2, b3, b4, fun j j1 j2 j3 => ?_⟩
        by_cases hj : j = w
        · rw [hj]; exact hm
        · exact b5 j j1 j2 (by omega)
      | true =>
        rw [if_neg (by decide)]
        have hz : d z ≤ d w := Nat.le_of_lt (hD.2.1 z w h4 hwm)
        have haz : d a ≤ d z := by
          by_cases q : a = z
          · rw [q]; omega
          · exact Nat.le_of_lt (hD.2.1 a z (by omega) (by omega))
        have hle := lc_anti hwa.1 (hD.2.2 z (by omega)).1 hww.1 a7 haz hz
        have h := e12_stem_41 (N := N) (w := w) (fX12_stem_6 N f K) (hA.2 a ha) (hA.2 w hwm) hwa hww (by omega) (by omega) (lc_lt (s := d z) a7) hle N 0 (by omega) (by omega)
        rw [show (0 : Int32) = nI 0 from rfl, h]
        obtain ⟨z', b1, b2, b3, b4, b5⟩ := ih (w + 1) w (by omega) (by omega) (by omega) (by omega)
        refine ⟨z', b1, by omega, b3, ?_, fun j j1 j2 j3 => b5 j j1 j2 (by omega)⟩
        rcases b4 with b | b
        · exact Or.inr (by rw [b]; exact hm)
        · exact Or.inr b
/-- promise 11, what 11 -/
theorem op_stem {N m P : Nat} {f gs : Nat → Int32} {g : Nat → Int64} {d q : Nat → Nat} (hN : 1000 ≤ N) (hD : Dic m d) (hR : Ris g d m) (hA : DA f 0 d m) (hq : PT q P) (hP : PA f 430 q P) : ∃ r, fX11_stem N (nI m) g (lN (bs (fun w => mt q P (d w)) m)) = some r ∧ fX12_stem N f = some r := by
  have h40 := hD.1
  unfold fX11_stem
  rw [e_bitCount (bs_lt40 h40), Option.bind_some, bs_count h40]
  have hcm : fb_ct (fun w => mt q P (d w)) m ≤ m := fb_ct_le _ m
  -- the model up to the first answer
  have hfirst : ∀ K w, w ≤ m → m + 1 ≤ K + w → (∀ j, j < w → mt q P (d j) = false) → (∃ a, a < m ∧ w ≤ a ∧ mt q P (d a) = true ∧ (∀ j, j < a → mt q P (d j) = false) ∧ ∃ K', m + 1 ≤ K' + (a + 1) ∧ fX12_stem_6 N f K (-1) 0 (nI w) = fX12_stem_6 N f K' (nI (0 + 1 + 8 * a)) (nI (lc (d a) (d a))) (nI (a + 1))) ∨ ((∀ j, j < m → mt q P (d j) = false) ∧ fX12_stem_6 N f K (-1) 0 (nI w) = some 0) := by
    intro K
    induction K with
    | zero => intro w h1 h2; omega
    | succ K ih =>
      intro w h1 h2 h3
      rw [fX12_stem_6, g0 (by decide), sb_cl0, hA.1]
      by_cases hw : m ≤ w
      · refine Or.inr ⟨fun j hj => h3 j (by omega), ?_⟩
        rw [if_pos (nI_le hw (by omega))]
      · have hwm : w < m := by omega
        have hww := hD.2.2 w hwm
        rw [if_neg (nI_ge (by omega) (by omega)), e12_wordAt0, Option.bind_some, show (430 : Int32) = nI 430 from rfl, e12_meets hN (by omega) hq hP (hA.2 w hwm) (by omega) hww.2.2.1, Option.bind_some, nI_1]
        cases hm : mt q P (d w) with
        | false =>
          rw [if_pos (ib0.mpr rfl)]
          rcases ih (w + 1) (by omega) (by omega) (fun j hj => by
            by_cases q1 : j = w
            · rw [q1]; exact hm
            · exact h3 j (by omega)) with ⟨a, a1, a2, a3, a4, a5⟩ | hn
          · exact Or.inl ⟨a, a1, by omega, a3, a4, a5⟩
          · exact Or.inr hn
        | true =>
          rw [if_neg (by decide)]
          refine Or.inl ⟨w, hwm, Nat.le_refl w, hm, h3, K, by omega, ?_⟩
          obtain ⟨N', hN'⟩ : ∃ N', N = N' + 1 := ⟨N - 1, by omega⟩
          have e41 : fX12_stem_41 N f (fX12_stem_6 N f K) N (-1) 0 (nI w) (nI (0 + 1 + 8 * w)) 0 = fX12_stem_6 N f K (nI (0 + 1 + 8 * w)) (nI (lc (d w) (d w))) (nI (w + 1)) := by
            rw [show fX12_stem_41 N f (fX12_stem_6 N f K) N (-1) 0 (nI w) (nI (0 + 1 + 8 * w)) 0 = fX12_stem_41 N f (fX12_stem_6 N f K) (N' + 1) (-1) 0 (nI w) (nI (0 + 1 + 8 * w)) 0 by rw [← hN'], fX12_stem_41, if_pos (by decide)]
            unfold fX12_stem_95 fX12_stem_111
            rw [if_neg (by decide), gi (by omega) (by decide), nI_clamp (by omega), (hA.2 w hwm).1, if_neg (by decide), nI_1, lc_self hww.2.2.1]
          exact e41
  unfold fX12_stem
  rcases hfirst N 0 (by omega) (by omega) (fun j hj => by omega) with ⟨a, a1, a2, a3, a4, K', a5, a6⟩ | ⟨hn, h0⟩
  · have hwa := hD.2.2 a a1
    have a7 := hwa.2.2.1
    have hc1 : 0 < fb_ct (fun w => mt q P (d w)) m := fb_ct_pos.mpr ⟨a, a1, a3⟩
    rw [show fX12_stem_6 N f N (-1) 0 0 = fX12_stem_6 N f N (-1) 0 (nI 0) from rfl, a6, if_neg (fun z => by have := (n0 (by omega)).mp z; omega)]
    obtain ⟨z', b1, b2, b3, b4, b5⟩ := e12_stem_l hN hD hA hq hP a1 K' (a + 1) a (by omega) a5 (Nat.le_refl a) (by omega)
    have hz : mt q P (d z') = true := by
      rcases b4 with b | b
      · rw [b]; exact a3
      · exact b
    have f0 : fb_ct (fun w => mt q P (d w)) a = 0 := fb_ct_zero.mpr (fun k hk => a4 k hk)
    have s0 : srch (fun w => mt q P (d w)) 0 m 0 0 = nI a := by
      have := srch_at (p := fun w => mt q P (d w)) h40 a1 a3
      rw [f0] at this
      exact this
    have fz : fb_ct (fun w => mt q P (d w)) m = fb_ct (fun w => mt q P (d w)) z' + 1 := by
      rw [show m = (z' + 1) + (m - (z' + 1)) by omega, fb_ct_split, fb_ct_succ]
      have : fb_ct (fun k => mt q P (d (z' + 1 + k))) (m - (z' + 1)) = 0 := fb_ct_zero.mpr (fun k hk => b5 _ (by omega) (by omega) (by omega))
      rw [if_pos hz]; omega
    have sz : srch (fun w => mt q P (d w)) (nI (fb_ct (fun w => mt q P (d w)) m) - 1) m 0 0 = nI z' := by
      rw [fz, nI_pred]
      exact srch_at (p := fun w => mt q P (d w)) h40 b3 hz
    rw [e0_numberOf 0 (by omega), Option.bind_some, bs_srch h40, s0, e7_at hR (by omega) (by omega) (by omega), if_pos a1, Option.bind_some, e0_numberOf _ (by omega), Option.bind_some, bs_srch h40, sz, e7_at hR (by omega) (by omega) (by omega), if_pos b3, Option.bind_some]
    exact ⟨_, e11_stem_l (by omega) hwa.1 (hD.2.2 z' b3).1 a7 N 0 (by omega) (by omega), b1⟩
  · have hc0 : fb_ct (fun w => mt q P (d w)) m = 0 := fb_ct_zero.mpr hn
    rw [hc0, if_pos (show nI 0 = 0 from rfl)]
    exact ⟨0, rfl, h0⟩
