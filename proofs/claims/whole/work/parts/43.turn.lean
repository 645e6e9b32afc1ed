/-! ===== questions of the index ===== -/
/-- the class's index: n turns, the keys in order -/
theorem IX_w {m n t : Nat} {d W F : Nat → Nat} (hX : IX m d n W F) (ht : t < n) : W t < m ∧ F t ≤ ln (d (W t)) := by
  obtain ⟨a, b⟩ := hX.2.1 t ht
  exact ⟨by omega, b⟩
theorem IX_n {m n : Nat} {d W F : Nat → Nat} (hD : Dic m d) (hX : IX m d n W F) : n ≤ 320 := by
  have h1 := tot_le (d := d) m (fun v hv => (hD.2.2 v hv).2.2.1)
  have h40 := hD.1
  have := hX.1
  omega
theorem e3_signsAt {m n t : Nat} {G : Nat → Int64} {d W F : Nat → Nat} (hD : Dic m d) (hX : IX m d n W F) (hG : Ris G (fun t => ky d (W t) (F t)) n) (ht : t < n) : fX3_signsAt (nI n) G (nI t) = some (lN (tr (d (W t)) (F t))) := by
  have hn := IX_n hD hX
  obtain ⟨a, b⟩ := IX_w hX ht
  have h40 := hD.1
  have l7 := (hD.2.2 _ a).2.2.1
  have hk := ky_lt d (w := W t) (k := F t) (by omega) (by omega)
  unfold fX3_signsAt
  rw [e7_at hG (by omega) (by omega) (by omega), if_pos ht, Option.bind_some]
  have e : lN (ky d (W t) (F t)) >>> (Int32.toInt64 (9 : Int32) &&& 63) = lN (ky d (W t) (F t) / 2 ^ 9) := shrL (k := 9) (by omega) (by decide)
  rw [e]
  congr 2
  unfold ky; omega
theorem e3_wordAt {m n t : Nat} {G : Nat → Int64} {d W F : Nat → Nat} (hD : Dic m d) (hX : IX m d n W F) (hG : Ris G (fun t => ky d (W t) (F t)) n) (ht : t < n) : fX3_wordAt (nI n) G (nI t) = some (nI (W t)) := by
  have hn := IX_n hD hX
  obtain ⟨a, b⟩ := IX_w hX ht
  have h40 := hD.1
  have l7 := (hD.2.2 _ a).2.2.1
  have hk := ky_lt d (w := W t) (k := F t) (by omega) (by omega)
  unfold fX3_wordAt
  rw [e7_at hG (by omega) (by omega) (by omega), if_pos ht, Option.bind_some]
  have e : lN (ky d (W t) (F t)) >>> (Int32.toInt64 (3 : Int32) &&& 63) = lN (ky d (W t) (F t) / 2 ^ 3) := shrL (k := 3) (by omega) (by decide)
  rw [e, lN_i, show (63 : Int32) = nI (2 ^ 6 - 1) from rfl, fa_mask]
  congr 2
  unfold ky; omega
theorem e3_numberAt {m n t : Nat} {G : Nat → Int64} {d W F : Nat → Nat} (hD : Dic m d) (hX : IX m d n W F) (hG : Ris G (fun t => ky d (W t) (F t)) n) (ht : t < n) : fX3_numberAt (nI n) G (nI t) = some (nI (F t)) := by
  have hn := IX_n hD hX
  obtain ⟨a, b⟩ := IX_w hX ht
  have l7 := (hD.2.2 _ a).2.2.1
  unfold fX3_numberAt
  rw [e7_at hG (by omega) (by omega) (by omega), if_pos ht, Option.bind_some, lN_i, show (7 : Int32) = nI (2 ^ 3 - 1) from rfl, fa_mask]
  congr 2
  unfold ky; omega
/-- a number too small for a place, taken down by a constant, is none of the first ones -/
theorem isIn_neg_sub {z : Int32} {c l : Nat} (hz : z < 0) (hc : c ≤ 100) (hl : l ≤ 100) : fX12_isIn (z - nI c) 0 (nI l) = some 0 := by
  by_cases h : z - nI c < 0
  · exact e12_isIn_neg h
  · obtain ⟨k, hk, he⟩ := nI_of h
    rw [he, show fX12_isIn (nI k) 0 (nI l) = some (if 0 ≤ k ∧ k ≤ l then 1 else 0) from e12_isIn (lo := 0) hk (by omega) (by omega), if_neg]
    intro q
    have hzz : z = nI (k + c) := by
      have : z = (z - nI c) + nI c := by rw [Int32.sub_add_cancel]
      rw [this, he, nI_add]
    rw [hzz] at hz
    exact nI_pos (by omega) hz
/-- promise 14 -/
theorem op_turn {N m n : Nat} {f tw tf : Nat → Int32} {v : Int32} {G : Nat → Int64} {d W F : Nat → Nat} (x z : Int32) (hN : 1000 ≤ N) (hD : Dic m d) (hA : DA f 0 d m) (hX : IX m d n W F) (hG : Ris G (fun t => ky d (W t) (F t)) n) : ∃ r tw' tf', fX11_turn (nI n) G x z = some r ∧ fX12_turn N v f tw tf x z = some (r, nI n, tw', tf') := by
  have hn := IX_n hD hX
  have h40 := hD.1
  obtain ⟨tw', tf', a1, a2⟩ := e12_laysTurns_as (tw := tw) (tf := tf) (v := v) (b := 0) hN hD hA (by omega) hX
  unfold fX11_turn fX12_turn fX3_size fX7_size
  rw [show fX12_laysTurns N v f tw tf 0 = some (nI n, tw', tf') from a1, Option.bind_some, Option.bind_some, Option.bind_some]
  dsimp only
  rcases isIn_m1 (x := x) (m := n) (by omega) with ⟨h1, h2⟩ | ⟨t, ht, rfl, h1⟩
  · rw [h1, Option.bind_some, if_pos rfl]
    by_cases h0 : x < 0
    · rw [if_pos h0]; exact ⟨-1, tw', tf', rfl, rfl⟩
    · rw [if_neg h0, if_pos (h2.resolve_left h0)]; exact ⟨-1, tw', tf', rfl, rfl⟩
  · obtain ⟨w1, w2⟩ := IX_w hX ht
    obtain ⟨t1, t2⟩ := a2 t ht
    have hww := hD.2.2 _ w1
    have l7 := hww.2.2.1
    have hx := hA.2 _ w1
    rw [h1, Option.bind_some, if_neg (show ¬ (1 : Int32) = 0 by decide), if_neg (nI_pos (by omega)), if_neg (nI_ge ht (by omega)), gi (by omega) (by decide), nI_clamp (by omega), t1, t2, e12_wordAt0, Option.bind_some, gi2 (by omega) (by decide), gi2 (by omega) (by decide), gi (by omega) (by decide), nI_clamp (by omega), hx.1, e3_wordAt hD hX hG ht, e3_numberAt hD hX hG ht, e3_signsAt hD hX hG ht, Option.bind_some, Option.bind_some, Option.bind_some]
    by_cases z0 : z = 0
    · subst z0
      rw [if_pos (by decide), if_pos rfl, if_pos rfl]; exact ⟨_, tw', tf', rfl, rfl⟩
    · rw [if_neg z0, if_neg z0]
      by_cases z1 : z = 1
      · subst z1
        rw [if_pos (by decide), if_pos rfl, if_pos rfl]; exact ⟨_, tw', tf', rfl, rfl⟩
      · rw [if_neg z1, if_neg z1]
        by_cases hz : z < 0
        · have hz1 : ¬ (0 : Int32) ≤ z := fun q => by rw [fa_lt] at hz; rw [fa_le] at q; omega
          rw [if_neg hz1, show fX12_isIn (z - 2) 0 (nI (ln (d (W t)))) = some 0 from isIn_neg_sub (c := 2) hz (by omega) (by omega), Option.bind_some, if_pos rfl]
          exact ⟨-1, tw', tf', rfl, rfl⟩
        · obtain ⟨k, hk, rfl⟩ := nI_of hz
          have k2 : 2 ≤ k := by
            rcases (show k = 0 ∨ k = 1 ∨ 2 ≤ k by omega) with q | q | q
            · exact absurd (by rw [q]; rfl) z0
            · exact absurd (by rw [q]; rfl) z1
            · exact q
          have e1 : nI k - 2 = nI (k - 2) := pk_sub (b := 2) k2
          rw [if_pos (nI_pos' hk), e1, e8_signAt (tr_lt _ _) (by omega), Option.bind_some, show fX12_isIn (nI (k - 2)) 0 (nI (ln (d (W t)))) = some (if 0 ≤ k - 2 ∧ k - 2 ≤ ln (d (W t)) then 1 else 0) from e12_isIn (lo := 0) (by omega) (by omega) (by omega), Option.bind_some]
          by_cases hkl : k - 2 ≤ ln (d (W t))
          · have hnz := (td_nz hww w2 (i := k - 2)).mpr hkl
            rw [if_pos (show 0 ≤ k - 2 ∧ k - 2 ≤ ln (d (W t)) from ⟨Nat.zero_le _, hkl⟩), if_neg (show ¬ (1 : Int32) = 0 by decide), gi2 (by omega) (by decide), e12_signAt hx hww (by omega) w2 (by omega), Option.bind_some, dg_tr _ _ (by omega), if_neg hnz]
            exact ⟨_, tw', tf', rfl, rfl⟩
          · have hz0 : dg (tr (d (W t)) (F t)) (k - 2) = 0 := by
              by_cases h8 : k - 2 < 8
              · rw [dg_tr _ _ h8]; exact Classical.byContradiction fun q => hkl ((td_nz hww w2).mp q)
              · exact dg_out (by omega)
            rw [if_neg (show ¬ (0 ≤ k - 2 ∧ k - 2 ≤ ln (d (W t))) from fun q => hkl q.2), if_pos rfl, if_pos hz0]
            exact ⟨-1, tw', tf', rfl, rfl⟩
/-! ===== the range of a run ===== -/
/-- a row of so many signs -/
def hr (s : Nat) (c : Nat → Nat) : Nat := mkd (fun i => if i < s then c i else 0)
theorem hr_ok {s : Nat} {c : Nat → Nat} (hc : ∀ i, i < s → c i < 32) : ∀ i, i < 8 → (fun i => if i < s then c i else 0) i < 32 := fun i _ => by
  dsimp only; split
  · next h => exact hc i h
  · decide
theorem hr_lt {s : Nat} {c : Nat → Nat} (hc : ∀ i, i < s → c i < 32) : hr s c < 1099511627776 := mkd_lt (hr_ok hc)
theorem dg_hr {s i : Nat} {c : Nat → Nat} (hc : ∀ i, i < s → c i < 32) (hi : i < 8) : dg (hr s c) i = if i < s then c i else 0 := dg_mkd (hr_ok hc) hi
theorem hr_mul {s : Nat} {c : Nat → Nat} (hc : ∀ i, i < s → c i < 32) (hs : s ≤ 8) : hr s c / 32 ^ (8 - s) * 32 ^ (8 - s) = hr s c := by
  rw [hd_is (hr_lt hc) hs]
  unfold hd
  refine mkd_cong (fun i hi => ?_)
  by_cases h : i < s
  · rw [if_pos h, dg_hr hc hi, if_pos h]
  · rw [if_neg h]
    show 0 = (if i < s then c i else 0)
    rw [if_neg h]
/-- between the row and the row above: the rows that begin so -/
theorem hr_range {s x : Nat} {c : Nat → Nat} (hc : ∀ i, i < s → c i < 32) (h1 : 1 ≤ s) (hs : s ≤ 8) (hx : x < 1099511627776) : (hr s c ≤ x ∧ x < hr s c + 32 ^ (8 - s)) ↔ ∀ i, i < s → dg x i = c i := by
  have hp := p32 (8 - s)
  have hm := hr_mul hc hs
  have key : (hr s c ≤ x ∧ x < hr s c + 32 ^ (8 - s)) ↔ x / 32 ^ (8 - s) = hr s c / 32 ^ (8 - s) := by
    constructor
    · rintro ⟨a, b⟩
      have l1 : hr s c / 32 ^ (8 - s) ≤ x / 32 ^ (8 - s) := Nat.div_le_div_right a
      have l2 : x / 32 ^ (8 - s) < hr s c / 32 ^ (8 - s) + 1 := by
        rw [Nat.div_lt_iff_lt_mul hp, Nat.add_mul, Nat.one_mul, hm]; exact b
      omega
    · intro h
      have e := Nat.div_add_mod x (32 ^ (8 - s))
      have l := Nat.mod_lt x hp
      rw [h, Nat.mul_comm, hm] at e
      omega
  rw [key]
  constructor
  · intro h i hi
    have e := pre_eq (r := x) (s := hr s c) (j := s - 1) (by omega) (by rw [show 7 - (s - 1) = 8 - s by omega]; exact h) i (by omega)
    rw [e, dg_hr hc (by omega), if_pos hi]
  · intro h
    have e := pre_of hx (hr_lt hc) (s - 1) (by omega) (fun i hi => by rw [h i (by omega), dg_hr hc (by omega), if_pos (by omega)])
    rw [show 7 - (s - 1) = 8 - s by omega] at e
    exact e
