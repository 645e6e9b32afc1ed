/-! ===== questions that need the words alone ===== -/
theorem g0 {α : Type} {n : Nat} {X : Option α} (h : 0 < n) : (if (0 : Int32) < 0 ∨ n ≤ (0 : Int32).toNatClampNeg then none else X) = X := by
  rw [if_neg]
  intro q
  rcases q with q | q
  · exact absurd q (by decide)
  · rw [sb_cl0] at q; omega
theorem e12_wordAt0 (w : Nat) : fX12_wordAt 0 (nI w) = some (nI (0 + 1 + 8 * w)) := e12_wordAt 0 w
theorem isIn_m1 {x : Int32} {m : Nat} (hm : m ≤ 1000) : (fX12_isIn x 0 (nI m - 1) = some 0 ∧ (x < 0 ∨ nI m ≤ x)) ∨ ∃ j, j < m ∧ x = nI j ∧ fX12_isIn x 0 (nI m - 1) = some 1 := by
  rcases pk_ix x (n := m) (by omega) with h | h | ⟨j, hj, rfl⟩
  · exact Or.inl ⟨e12_isIn_neg h, Or.inl h⟩
  · refine Or.inl ⟨?_, Or.inr h⟩
    unfold fX12_isIn
    by_cases h0 : x < 0
    · rw [if_pos h0]
    · rw [if_neg h0, if_pos]
      obtain ⟨k, hk, rfl⟩ := nI_of h0
      have hmk := (nI_leI (by omega) hk).mp h
      by_cases hz : m = 0
      · subst hz
        rw [fa_lt]
        have e : (nI 0 - 1 : Int32).toInt = -1 := by decide
        rw [e, nI_toInt hk]; omega
      · have e1 : nI m - 1 = nI (m - 1) := pk_sub (b := 1) (by omega)
        rw [e1]; exact nI_lt (by omega) hk
  · refine Or.inr ⟨j, hj, rfl, ?_⟩
    have e1 : nI m - 1 = nI (m - 1) := pk_sub (b := 1) (by omega)
    rw [e1, show (0 : Int32) = nI 0 from rfl, e12_isIn (by omega) (by omega) (by omega), if_pos ⟨by omega, by omega⟩]
theorem hasN_out {x : Int32} {m : Nat} (h : x < 0 ∨ nI m ≤ x) : fX7_hasNumber (nI m) x = some 0 := by
  unfold fX7_hasNumber
  by_cases h0 : x < 0
  · rw [if_pos h0]
  · rw [if_neg h0, if_pos (h.resolve_left h0)]
/-- answers, counted -/
theorem e12_answers_l {N b p m P : Nat} {f : Nat → Int32} {d q : Nat → Nat} (hN : 1000 ≤ N) (hD : Dic m d) (hA : DA f b d m) (hb : b + 1 + 8 * m ≤ 5228) (hp : p + 14 ≤ 5228) (hq : PT q P) (hf : PA f p q P) : ∀ K w, w ≤ m → m + 1 ≤ K + w → fX12_answers_5 N f (nI b) (nI p) K (nI (fb_ct (fun w => mt q P (d w)) w)) (nI w) = some (nI (fb_ct (fun w => mt q P (d w)) m)) := by
  have h40 := hD.1
  intro K
  induction K with
  | zero => intro w h1 h2; omega
  | succ K ih =>
    intro w h1 h2
    rw [fX12_answers_5, gi (by omega) (by decide), nI_clamp (by omega), hA.1]
    by_cases hw : m ≤ w
    · rw [if_pos (nI_le hw (by omega)), show w = m by omega]
    · rw [if_neg (nI_ge (by omega) (by omega)), e12_wordAt, Option.bind_some, e12_meets hN hp hq hf (hA.2 w (by omega)) (by omega) (hD.2.2 w (by omega)).2.2.1, Option.bind_some, nI_1, nI_1, show (0 : Int32) = nI 0 from rfl, nI_add]
      have ih' := ih (w + 1) (by omega) (by omega)
      rw [fb_ct_succ] at ih'
      cases hb : mt q P (d w) with
      | false => rw [hb] at ih'; rw [if_pos (show (if false = true then (1 : Int32) else nI 0) = nI 0 from rfl)]; exact ih'
      | true => rw [hb] at ih'; rw [if_neg (by decide)]; exact ih'
theorem e12_answers {N b p m P : Nat} {f : Nat → Int32} {d q : Nat → Nat} (hN : 1000 ≤ N) (hD : Dic m d) (hA : DA f b d m) (hb : b + 1 + 8 * m ≤ 5228) (hp : p + 14 ≤ 5228) (hq : PT q P) (hf : PA f p q P) : fX12_answers N f (nI b) (nI p) = some (nI (fb_ct (fun w => mt q P (d w)) m)) := by
  have h40 := hD.1
  unfold fX12_answers
  exact e12_answers_l hN hD hA hb hp hq hf N 0 (by omega) (by omega)
/-- the k-th answer -/
theorem e12_answer_l {N b m P : Nat} {f : Nat → Int32} {d q : Nat → Nat} {k y : Int32} (hN : 1000 ≤ N) (hD : Dic m d) (hA : DA f b d m) (hb : b + 1 + 8 * m ≤ 5228) (hq : PT q P) (hf : PA f 430 q P) : ∀ K w c, w ≤ m → m + 1 ≤ K + w → fX12_answer_12 N k y K (nI b) (nI c) (nI w) f = some (srch (fun w => mt q P (d w)) k (m - w) w c, f) := by
  have h40 := hD.1
  intro K
  induction K with
  | zero => intro w c h1 h2; omega
  | succ K ih =>
    intro w c h1 h2
    rw [fX12_answer_12, gi (by omega) (by decide), nI_clamp (by omega), hA.1]
    by_cases hw : m ≤ w
    · rw [if_pos (nI_le hw (by omega)), show m - w = 0 by omega]; rfl
    · rw [if_neg (nI_ge (by omega) (by omega)), e12_wordAt, Option.bind_some, show (430 : Int32) = nI 430 from rfl, e12_meets hN (by omega) hq hf (hA.2 w (by omega)) (by omega) (hD.2.2 w (by omega)).2.2.1, Option.bind_some, nI_1, nI_1, ih (w + 1) c (by omega) (by omega), ih (w + 1) (c + 1) (by omega) (by omega), show m - w = (m - (w + 1)) + 1 by omega, srch]
      cases hb : mt q P (d w) with
      | false => rw [if_pos (ib0.mpr rfl), if_neg (by decide)]
      | true => rw [if_neg (by decide), if_pos rfl]; split <;> rfl
/-- near: the model -/
theorem e12_areNear_l {N x y r s : Nat} {f : Nat → Int32} (hx : WA f x r) (hy : WA f y s) (wr : isW r) (ws : isW s) (bx : x + 8 ≤ 5228) (by_ : y + 8 ≤ 5228) : ∀ K i c, i ≤ ln r → ln r + 1 ≤ K + i → c ≤ i → (ln r = ln s → c = df r s i) → fX12_areNear_5 N f (nI x) (nI y) K (nI c) (nI (i + 1)) = some (if df r s 8 = 1 ∧ ln r = ln s then 1 else 0) := by
  have r7 := wr.2.2.1; have s7 := ws.2.2.1
  intro K
  induction K with
  | zero => intro i c h1 h2; omega
  | succ K ih =>
    intro i c h1 h2 hc he
    rw [fX12_areNear_5, gi (by omega) (by decide), gi (by omega) (by decide), gi (by omega) (by decide), nI_clamp (by omega), nI_clamp (by omega), hx.1, hy.1]
    by_cases hi : ln r < i + 1
    · rw [if_pos (nI_lt hi (by omega))]
      have hir : i = ln r := by omega
      by_cases hl : ln r = ln s
      · rw [if_pos (by rw [hl])]
        have h8 : df r s 8 = df r s i := by
          unfold df
          rw [show (8 : Nat) = i + (8 - i) by omega, fb_ct_split]
          have : fb_ct (fun k => dg r (i + k) != dg s (i + k)) (8 - i) = 0 := fb_ct_zero.mpr (fun k hk => by
            rw [wr.2.2.2.2 (i + k) (by omega), ws.2.2.2.2 (i + k) (by omega)]; rfl)
          omega
        rw [he hl, h8]
        have hdi : df r s i ≤ i := fb_ct_le _ i
        by_cases h1d : df r s i = 1
        · rw [if_pos (show nI (df r s i) = 1 by rw [h1d]; rfl), if_pos ⟨h1d, hl⟩]
        · rw [if_neg (show ¬ nI (df r s i) = 1 from fun z => h1d ((nI_eq (b := 1) (by omega) (by decide)).mp z)), if_neg (fun z => h1d z.1)]
      · rw [if_neg (fun z => hl ((nI_eq (by omega) (by omega)).mp z)), if_neg (fun z => hl z.2)]
    · rw [if_neg (nI_nlt (by omega) (by omega)), nI_add, nI_add, gi (by omega) (by decide), gi (by omega) (by decide), nI_clamp (by omega), nI_clamp (by omega), nI_1, nI_1, show (0 : Int32) = nI 0 from rfl, nI_add, Nat.add_zero, show x + (i + 1) = x + 1 + i by omega, show y + (i + 1) = y + 1 + i by omega, hx.2 i (by omega)]
      have es : df r s (i + 1) = df r s i + (if (dg r i != dg s i) then 1 else 0) := fb_ct_succ _ i
      by_cases hl : ln r = ln s
      · rw [hy.2 i (by omega)]
        have g1 := sg_lt (dg_lt r i); have g2 := sg_lt (dg_lt s i)
        by_cases hd : dg r i = dg s i
        · rw [if_pos (by rw [hd])]
          exact ih (i + 1) c (by omega) (by omega) (by omega) (fun _ => by rw [es, he hl]; simp [hd])
        · rw [if_neg (fun z => hd (sg_inj ((nI_eq (by omega) (by omega)).mp z)))]
          exact ih (i + 1) (c + 1) (by omega) (by omega) (by omega) (fun _ => by rw [es, he hl]; simp [hd])
      · split
        · exact ih (i + 1) c (by omega) (by omega) (by omega) (fun z => absurd z hl)
        · exact ih (i + 1) (c + 1) (by omega) (by omega) (by omega) (fun z => absurd z hl)
theorem e12_areNear {N x y r s : Nat} {f : Nat → Int32} (hN : 1000 ≤ N) (hx : WA f x r) (hy : WA f y s) (wr : isW r) (ws : isW s) (bx : x + 8 ≤ 5228) (by_ : y + 8 ≤ 5228) : fX12_areNear N f (nI x) (nI y) = some (if df r s 8 = 1 ∧ ln r = ln s then 1 else 0) := by
  have r7 := wr.2.2.1
  unfold fX12_areNear
  exact e12_areNear_l hx hy wr ws bx by_ N 0 0 (by omega) (by omega) (by omega) (fun _ => rfl)
/-- near or not -/
def nr (r s : Nat) : Bool := decide (df r s 8 = 1 ∧ ln r = ln s)
theorem nr_if (r s : Nat) : (if df r s 8 = 1 ∧ ln r = ln s then (1 : Int32) else 0) = if nr r s then 1 else 0 := by unfold nr; simp
theorem e11_nearWords_l {N m r : Nat} {g : Nat → Int64} {d : Nat → Nat} (hN : 1000 ≤ N) (hR : Ris g d m) (hD : Dic m d) (hr : r < 1099511627776) : ∀ K w, w ≤ m → m + 1 ≤ K + w → fX11_nearWords_5 N (nI m) g (lN r) K (lN (bs (fun w => nr r (d w)) w)) (nI w) = some (lN (bs (fun w => nr r (d w)) m)) := by
  have h40 := hD.1
  intro K
  induction K with
  | zero => intro w h1 h2; omega
  | succ K ih =>
    intro w h1 h2
    rw [fX11_nearWords_5, fX7_size, Option.bind_some]
    by_cases hw : m ≤ w
    · rw [if_pos (nI_le hw (by omega)), show w = m by omega]
    · rw [if_neg (nI_ge (by omega) (by omega)), e7_at hR (by omega) (by omega) (by omega), if_pos (by omega), Option.bind_some, e8_areNear (by omega) hr (hD.2.2 w (by omega)).1, Option.bind_some, e0_bit (by omega), Option.bind_some, fb_orL, nI_1, nr_if]
      have ih' := ih (w + 1) (by omega) (by omega)
      rw [bs] at ih'
      cases hb : nr r (d w) with
      | false => rw [hb] at ih'; rw [if_pos (ib0.mpr rfl)]; rw [if_neg (by decide), Nat.or_zero] at ih'; exact ih'
      | true => rw [hb] at ih'; rw [if_neg (by decide)]; rw [if_pos rfl] at ih'; exact ih'
theorem e12_near_l {N m j : Nat} {f : Nat → Int32} {d : Nat → Nat} {k : Int32} (hN : 1000 ≤ N) (hD : Dic m d) (hA : DA f 0 d m) (hj : j < m) : ∀ K w c, w ≤ m → m + 1 ≤ K + w → c ≤ w → c = fb_ct (fun w => nr (d j) (d w)) w → fX12_near_24 N f (nI j) k K (nI c) (nI w) = some (if k = -1 then nI (fb_ct (fun w => nr (d j) (d w)) m) else if srch (fun w => nr (d j) (d w)) k (m - w) w c = -1 then -2 else srch (fun w => nr (d j) (d w)) k (m - w) w c) := by
  have h40 := hD.1
  intro K
  induction K with
  | zero => intro w c h1 h2; omega
  | succ K ih =>
    intro w c h1 h2 hc he
    rw [fX12_near_24, g0 (by decide), sb_cl0, hA.1]
    by_cases hw : m ≤ w
    · have hwm : w = m := by omega
      rw [if_pos (nI_le hw (by omega)), show m - w = 0 by omega, srch, if_pos rfl, he, hwm]
      split <;> rfl
    · rw [if_neg (nI_ge (by omega) (by omega)), e12_wordAt0, Option.bind_some, e12_wordAt0, Option.bind_some, e12_areNear hN (hA.2 j hj) (hA.2 w (by omega)) (hD.2.2 j hj) (hD.2.2 w (by omega)) (by omega) (by omega), Option.bind_some, nr_if, nI_1, nI_1, show m - w = (m - (w + 1)) + 1 by omega, srch]
      cases hb : nr (d j) (d w) with
      | false =>
        rw [if_pos (ib0.mpr rfl), if_neg (show ¬ (false = true) by decide)]
        exact ih (w + 1) c (by omega) (by omega) (by omega) (by rw [fb_ct_succ, hb, he]; rfl)
      | true =>
        rw [if_neg (by decide), if_pos (show true = true from rfl)]
        have ih' := ih (w + 1) (c + 1) (by omega) (by omega) (by omega) (by rw [fb_ct_succ, hb, he]; rfl)
        by_cases hk : nI c = k
        · rw [if_pos hk, if_pos hk]
          have hk1 : ¬ k = -1 := fun z => by
            rw [z] at hk
            have : (nI c).toInt = (-1 : Int32).toInt := by rw [hk]
            rw [nI_toInt (by omega), show (-1 : Int32).toInt = -1 by decide] at this
            omega
          have hw1 : ¬ nI w = -1 := fun z => by
            have : (nI w).toInt = (-1 : Int32).toInt := by rw [z]
            rw [nI_toInt (by omega), show (-1 : Int32).toInt = -1 by decide] at this
            omega
          rw [if_neg hk1, if_neg hw1]
        · rw [if_neg hk, if_neg hk]; exact ih'
theorem op_near {N m : Nat} {f : Nat → Int32} {g : Nat → Int64} {d : Nat → Nat} (x k : Int32) (hN : 1000 ≤ N) (hD : Dic m d) (hR : Ris g d m) (hA : DA f 0 d m) : ∃ r, fX11_near N (nI m) g x k = some r ∧ fX12_near N f x k = some r := by
  have h40 := hD.1
  unfold fX11_near fX12_near
  rw [show (0 : Int32).toNatClampNeg = 0 from rfl, if_neg (show ¬ ((0 : Int32) < 0 ∨ 5228 ≤ 0) by decide), hA.1]
  rcases isIn_m1 (x := x) (m := m) (by omega) with ⟨h1, h2⟩ | ⟨j, hj, rfl, h1⟩
  · rw [hasN_out h2, h1]; exact ⟨-2, rfl, rfl⟩
  · rw [e7_hasNumber (by omega) (by omega), if_pos hj, h1, Option.bind_some, Option.bind_some, if_neg (by decide), if_neg (by decide), e7_at hR (by omega) (by omega) (by omega), if_pos hj, Option.bind_some]
    unfold fX11_nearWords
    have e1 := e11_nearWords_l hN hR hD (hD.2.2 j hj).1 N 0 (by omega) (by omega)
    have e2 := e12_near_l (k := k) hN hD hA hj N 0 0 (by omega) (by omega) (by omega) rfl
    rw [show (0 : Int64) = lN (bs (fun w => nr (d j) (d w)) 0) from rfl, show (0 : Int32) = nI 0 from rfl, e1, Option.bind_some, e2, e_bitCount (bs_lt40 h40), Option.bind_some, e0_numberOf k (by omega), Option.bind_some, bs_count h40, bs_srch h40, Nat.sub_zero]
    by_cases hk : k = -1
    · rw [if_pos hk, if_pos hk]; exact ⟨_, rfl, rfl⟩
    · rw [if_neg hk, if_neg hk]
      split
      · exact ⟨_, rfl, rfl⟩
      · exact ⟨_, rfl, rfl⟩
