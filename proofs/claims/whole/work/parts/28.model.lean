/-! ===== the model's words ===== -/
/-- at x lies the word r: its length, then its letters -/
def WA (f : Nat → Int32) (x r : Nat) : Prop := f x = nI (ln r) ∧ ∀ i, i < ln r → f (x + 1 + i) = nI (sg (dg r i))
/-- at b lies a list of m words -/
def DA (f : Nat → Int32) (b : Nat) (d : Nat → Nat) (m : Nat) : Prop := f b = nI m ∧ ∀ w, w < m → WA f (b + 1 + 8 * w) (d w)
theorem WA_cong {f g : Nat → Int32} {x y r : Nat} (hr : ln r ≤ 7) (h : ∀ i, i < 8 → g (y + i) = f (x + i)) (hw : WA f x r) : WA g y r := by
  refine ⟨by have := h 0 (by omega); rw [Nat.add_zero, Nat.add_zero] at this; rw [this]; exact hw.1, fun i hi => ?_⟩
  have := h (1 + i) (by omega)
  rw [← Nat.add_assoc, ← Nat.add_assoc] at this
  rw [this]; exact hw.2 i hi
theorem e12_wordAt (b w : Nat) : fX12_wordAt (nI b) (nI w) = some (nI (b + 1 + 8 * w)) := by
  unfold fX12_wordAt
  have e : (8 : Int32) * nI w = nI (8 * w) := pk_mul 8 w
  rw [nI_1, e, nI_add]
theorem e12_isIn {v lo hi : Nat} (hv : v < 2147483648) (hl : lo < 2147483648) (hh : hi < 2147483648) : fX12_isIn (nI v) (nI lo) (nI hi) = some (if lo ≤ v ∧ v ≤ hi then 1 else 0) := by
  unfold fX12_isIn
  by_cases h1 : v < lo
  · rw [if_pos (nI_lt h1 hl), if_neg (fun q => by omega)]
  · rw [if_neg (nI_nlt (by omega) hv)]
    by_cases h2 : hi < v
    · rw [if_pos (nI_lt h2 hv), if_neg (fun q => by omega)]
    · rw [if_neg (nI_nlt (by omega) hh), if_pos ⟨by omega, by omega⟩]
theorem e12_isIn_neg {v lo hi : Int32} (h : v < lo) : fX12_isIn v lo hi = some 0 := by
  unfold fX12_isIn; rw [if_pos h]
/-- a letter of a word, or 0 behind it -/
theorem WA_at {f : Nat → Int32} {x r i : Nat} (hw : WA f x r) (hz : ∀ i, ln r ≤ i → dg r i = 0) (hi : 1 ≤ i) (h7 : i ≤ 7) : (if nI (ln r) < nI i then (0 : Int32) else f (x + i)) = nI (sg (dg r (i - 1))) := by
  have hl := ln_le r
  by_cases h : ln r < i
  · rw [if_pos (nI_lt h (by omega)), hz _ (by omega)]; rfl
  · rw [if_neg (nI_nlt (by omega) (by omega))]
    have := hw.2 (i - 1) (by omega)
    rw [show x + 1 + (i - 1) = x + i by omega] at this
    exact this
theorem e12_order_30 {N x y s i : Nat} {f : Nat → Int32} (rc : Int32 → Option Int32) (A : Int32) (hw : WA f y s) (hz : ∀ i, ln s ≤ i → dg s i = 0) (hy : y + 8 ≤ 5228) (hi : 1 ≤ i) (h7 : i ≤ 7) : fX12_order_30 N f (nI x) (nI y) rc A (nI i) = fX12_order_54 N f (nI x) (nI y) rc (nI (sg (dg s (i - 1)))) (nI i) A := by
  unfold fX12_order_30
  have hl := ln_le s
  rw [gi (by omega) (by decide), nI_clamp (by omega), hw.1, nI_add, gi (by omega) (by decide), nI_clamp (by omega)]
  have h := WA_at hw hz hi h7
  by_cases hc : nI (ln s) < nI i
  · rw [if_pos hc] at h ⊢; rw [h]
  · rw [if_neg hc] at h ⊢; rw [h]
theorem e12_order_l {N x y r s : Nat} {f : Nat → Int32} (hx : WA f x r) (hy : WA f y s) (wr : isW r) (ws : isW s) (bx : x + 8 ≤ 5228) (by_ : y + 8 ≤ 5228) : ∀ K i, 1 ≤ i → i ≤ 8 → 9 ≤ K + i → (∀ j, j < i - 1 → dg r j = dg s j) → fX12_order_2 N f (nI x) (nI y) K (nI i) = some (if r < s then -1 else if r = s then 0 else 1) := by
  obtain ⟨r40, r1, r7, -, rz⟩ := wr
  obtain ⟨s40, s1, s7, -, sz⟩ := ws
  intro K
  induction K with
  | zero => intro i h1 h2 h3 h4; omega
  | succ K ih =>
    intro i h1 h2 h3 h4
    rw [fX12_order_2]
    by_cases h8 : i = 8
    · subst h8
      rw [if_pos (by decide)]
      have e : r = s := dg_ext r40 s40 (fun j hj => by
        by_cases hj7 : j < 7
        · exact h4 j (by omega)
        · rw [rz _ (by omega), sz _ (by omega)])
      rw [if_neg (by omega), if_pos e]
    · rw [if_neg (show ¬ (7 : Int32) < nI i from nI_nlt (a := 7) (by omega) (by decide)), gi (by omega) (by decide), nI_clamp (by omega), hx.1, nI_add, gi (by omega) (by decide), nI_clamp (by omega), e12_order_30 _ _ hy sz by_ h1 (by omega), e12_order_30 _ _ hy sz by_ h1 (by omega)]
      have h := WA_at hx rz h1 (by omega)
      have key : (if nI (ln r) < nI i then fX12_order_54 N f (nI x) (nI y) (fX12_order_2 N f (nI x) (nI y) K) (nI (sg (dg s (i - 1)))) (nI i) 0 else fX12_order_54 N f (nI x) (nI y) (fX12_order_2 N f (nI x) (nI y) K) (nI (sg (dg s (i - 1)))) (nI i) (f (x + i))) = fX12_order_54 N f (nI x) (nI y) (fX12_order_2 N f (nI x) (nI y) K) (nI (sg (dg s (i - 1)))) (nI i) (nI (sg (dg r (i - 1)))) := by
        by_cases hc : nI (ln r) < nI i
        · rw [if_pos hc] at h ⊢; rw [← h]
        · rw [if_neg hc] at h ⊢; rw [h]
      rw [key]
      unfold fX12_order_54
      have hr := sg_lt (dg_lt r (i - 1)); have hs := sg_lt (dg_lt s (i - 1))
      by_cases he : dg r (i - 1) = dg s (i - 1)
      · rw [if_pos (by rw [he]), nI_1]
        refine ih (i + 1) (by omega) (by omega) (by omega) (fun j hj => ?_)
        by_cases hj1 : j < i - 1
        · exact h4 j hj1
        · rw [show j = i - 1 by omega]; exact he
      · rw [if_neg (fun q => he (sg_inj ((nI_eq (by omega) (by omega)).mp q)))]
        by_cases hlt : dg r (i - 1) < dg s (i - 1)
        · rw [if_neg (nI_ge (sg_mono hlt) (by omega)), if_pos (dg_lex r40 s40 (by omega) h4 hlt)]
        · have hgt := dg_lex s40 r40 (i := i - 1) (by omega) (fun j hj => (h4 j hj).symm) (by omega)
          rw [if_pos (nI_le (Nat.le_of_lt (sg_mono (show dg s (i - 1) < dg r (i - 1) by omega))) (by omega)), if_neg (by omega), if_neg (by omega)]
theorem e12_order {N x y r s : Nat} {f : Nat → Int32} (hN : 9 ≤ N) (hx : WA f x r) (hy : WA f y s) (wr : isW r) (ws : isW s) (bx : x + 8 ≤ 5228) (by_ : y + 8 ≤ 5228) : fX12_order N f (nI x) (nI y) = some (if r < s then -1 else if r = s then 0 else 1) := by
  unfold fX12_order
  exact e12_order_l hx hy wr ws bx by_ N 1 (by omega) (by omega) (by omega) (fun j hj => by omega)
theorem e12_numberOf_l {N b x m r : Nat} {f : Nat → Int32} {d : Nat → Nat} (hN : 9 ≤ N) (hd : DA f b d m) (hx : WA f x r) (wr : isW r) (wd : ∀ w, w < m → isW (d w)) (hI : Inc d m) (hb : b + 1 + 8 * m ≤ 5228) (bx : x + 8 ≤ 5228) : ∀ K w, w ≤ m → m + 1 ≤ K + w → (∀ j, j < w → d j ≠ r) → fX12_numberOf_2 N f (nI b) (nI x) K (nI w) = some (if bl d m r < m ∧ d (bl d m r) = r then nI (bl d m r) else -1) := by
  intro K
  induction K with
  | zero => intro w h1 h2 h3; omega
  | succ K ih =>
    intro w h1 h2 h3
    rw [fX12_numberOf_2, gi (by omega) (by decide), nI_clamp (by omega), hd.1]
    by_cases hw : m ≤ w
    · rw [if_pos (nI_le hw (by omega)), if_neg]
      intro q
      obtain ⟨i, hi, e⟩ := (bl_there hI).mpr q
      exact h3 i (by omega) e
    · rw [if_neg (nI_ge (by omega) (by omega)), e12_wordAt, Option.bind_some, e12_order hN (hd.2 w (by omega)) hx (wd w (by omega)) wr (by omega) bx, Option.bind_some, nI_1]
      by_cases he : d w = r
      · rw [if_pos (show (if d w < r then (-1 : Int32) else if d w = r then 0 else 1) = 0 by rw [if_neg (by omega), if_pos he])]
        have hbw : bl d m r = w := bl_is (by omega) (fun j hj => by rw [← he]; exact hI _ _ hj (by omega)) (fun _ => by omega)
        rw [hbw, if_pos ⟨by omega, he⟩]
      · have hne : ¬ (if d w < r then (-1 : Int32) else if d w = r then 0 else 1) = 0 := by
          by_cases hl : d w < r
          · rw [if_pos hl]; decide
          · rw [if_neg hl, if_neg he]; decide
        rw [if_neg hne]
        refine ih (w + 1) (by omega) (by omega) (fun j hj => ?_)
        by_cases hj1 : j < w
        · exact h3 j hj1
        · rw [show j = w by omega]; exact he
theorem e12_numberOf {N b x m r : Nat} {f : Nat → Int32} {d : Nat → Nat} (hN : 1000 ≤ N) (hd : DA f b d m) (hx : WA f x r) (wr : isW r) (wd : ∀ w, w < m → isW (d w)) (hI : Inc d m) (hb : b + 1 + 8 * m ≤ 5228) (bx : x + 8 ≤ 5228) (hm : m ≤ 40) : fX12_numberOf N f (nI b) (nI x) = some (if bl d m r < m ∧ d (bl d m r) = r then nI (bl d m r) else -1) := by
  unfold fX12_numberOf
  exact e12_numberOf_l (by omega) hd hx wr wd hI hb bx N 0 (by omega) (by omega) (fun j hj => by omega)
