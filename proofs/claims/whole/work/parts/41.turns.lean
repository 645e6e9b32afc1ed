/-! ===== turns: the model's order ===== -/
theorem e12_signAt {x r k i : Nat} {f : Nat → Int32} (hx : WA f x r) (hw : isW r) (bx : x + 8 ≤ 5228) (hk : k ≤ ln r) (hi : i < 8) : fX12_signAt f (nI x) (nI k) (nI i) = some (nI (sg (td r k i))) := by
  have h7 := hw.2.2.1
  unfold fX12_signAt td
  rw [gi (by omega) (by decide), nI_clamp (by omega), hx.1, nI_1, nI_add, nI_add, nI_add, nI_add, nI_add]
  by_cases h1 : i ≤ ln r
  · rw [if_pos (nI_le h1 (by omega))]
    by_cases h2 : ln r ≤ k + i
    · rw [if_pos (nI_le h2 (by omega)), if_neg (show ¬ i < ln r - k by omega)]
      by_cases h3 : k + i = ln r
      · rw [if_pos (by rw [h3]), if_pos (show i = ln r - k by omega)]; rfl
      · rw [if_neg (fun z => h3 ((nI_eq (by omega) (by omega)).mp z)), if_neg (show ¬ i = ln r - k by omega), if_pos h1, pk_sub (by omega), gi (by omega) (by decide), nI_clamp (by omega), show x + k + i - ln r = x + 1 + (i - (ln r - k) - 1) by omega, hx.2 _ (by omega)]
    · rw [if_neg (nI_ge (by omega) (by omega)), if_pos (show i < ln r - k by omega), gi (by omega) (by decide), nI_clamp (by omega), show x + 1 + k + i = x + 1 + (k + i) by omega, hx.2 _ (by omega)]
  · rw [if_neg (nI_ge (by omega) (by omega)), if_neg (show ¬ i < ln r - k by omega), if_neg (show ¬ i = ln r - k by omega), if_neg h1]; rfl
theorem e12_isAhead_l {N x y r s k j : Nat} {f : Nat → Int32} (hx : WA f x r) (hy : WA f y s) (wr : isW r) (ws : isW s) (bx : x + 8 ≤ 5228) (by_ : y + 8 ≤ 5228) (hk : k ≤ ln r) (hj : j ≤ ln s) : ∀ K i, i ≤ 8 → 9 ≤ K + i → (∀ c, c < i → td r k c = td s j c) → fX12_isAhead_3 N f (nI x) (nI k) (nI y) (nI j) K (nI i) = some (if tr r k < tr s j then 1 else 0) := by
  have r7 := wr.2.2.1; have s7 := ws.2.2.1
  intro K
  induction K with
  | zero => intro i h1 h2; omega
  | succ K ih =>
    intro i h1 h2 h3
    rw [fX12_isAhead_3]
    by_cases hi : i = 8
    · subst hi
      have e : tr r k = tr s j := mkd_cong (fun c hc => h3 c hc)
      rw [if_pos (by decide), if_neg (by omega)]
    · rw [if_neg (show ¬ (7 : Int32) < nI i from nI_nlt (a := 7) (by omega) (by decide)), e12_signAt hx wr bx hk (by omega), Option.bind_some, e12_signAt hy ws by_ hj (by omega), Option.bind_some, nI_1]
      have t1 := td_lt r k i; have t2 := td_lt s j i
      have s1 := sg_lt t1; have s2 := sg_lt t2
      by_cases he : td r k i = td s j i
      · rw [if_pos (by rw [he])]
        exact ih (i + 1) (by omega) (by omega) (fun c hc => by
          by_cases q : c = i
          · rw [q]; exact he
          · exact h3 c (by omega))
      · rw [if_neg (fun z => he (sg_inj ((nI_eq (by omega) (by omega)).mp z)))]
        have d1 : ∀ c, c < i → dg (tr r k) c = dg (tr s j) c := fun c hc => by rw [dg_tr _ _ (by omega), dg_tr _ _ (by omega)]; exact h3 c hc
        by_cases hlt : td r k i < td s j i
        · have := dg_lex (tr_lt r k) (tr_lt s j) (i := i) (by omega) d1 (by rw [dg_tr _ _ (by omega), dg_tr _ _ (by omega)]; exact hlt)
          rw [if_neg (nI_ge (sg_mono hlt) (by omega)), if_pos this]
        · have := dg_lex (tr_lt s j) (tr_lt r k) (i := i) (by omega) (fun c hc => (d1 c hc).symm) (by rw [dg_tr _ _ (by omega), dg_tr _ _ (by omega)]; omega)
          rw [if_pos (nI_le (Nat.le_of_lt (sg_mono (show td s j i < td r k i by omega))) (by omega)), if_neg (by omega)]
theorem e12_isAhead {N x y r s k j : Nat} {f : Nat → Int32} (hN : 1000 ≤ N) (hx : WA f x r) (hy : WA f y s) (wr : isW r) (ws : isW s) (bx : x + 8 ≤ 5228) (by_ : y + 8 ≤ 5228) (hk : k ≤ ln r) (hj : j ≤ ln s) : fX12_isAhead N f (nI x) (nI k) (nI y) (nI j) = some (if tr r k < tr s j then 1 else 0) := by
  unfold fX12_isAhead
  exact e12_isAhead_l hx hy wr ws bx by_ hk hj N 0 (by omega) (by omega) (fun c hc => by omega)
/-! ===== a turn tells its word ===== -/
theorem td_nz {r k i : Nat} (hw : isW r) (hk : k ≤ ln r) : (td r k i ≠ 0) ↔ i ≤ ln r := by
  unfold td
  by_cases h1 : i < ln r - k
  · rw [if_pos h1]
    have := ln_no (r := r) (i := k + i) (by omega)
    exact ⟨fun _ => by omega, fun _ => this⟩
  · rw [if_neg h1]
    by_cases h2 : i = ln r - k
    · rw [if_pos h2]; exact ⟨fun _ => by omega, fun _ => by decide⟩
    · rw [if_neg h2]
      by_cases h3 : i ≤ ln r
      · rw [if_pos h3]
        have := ln_no (r := r) (i := i - (ln r - k) - 1) (by omega)
        exact ⟨fun _ => h3, fun _ => this⟩
      · rw [if_neg h3]; exact ⟨fun q => absurd rfl q, fun q => absurd q h3⟩
theorem td_one {r k i : Nat} (hw : isW r) (hk : k ≤ ln r) : (td r k i = 1) ↔ i = ln r - k := by
  unfold td
  by_cases h1 : i < ln r - k
  · rw [if_pos h1]
    have := hw.2.2.2.1 (k + i) (by omega)
    exact ⟨fun q => by omega, fun q => by omega⟩
  · rw [if_neg h1]
    by_cases h2 : i = ln r - k
    · rw [if_pos h2]; exact ⟨fun _ => h2, fun _ => rfl⟩
    · rw [if_neg h2]
      by_cases h3 : i ≤ ln r
      · rw [if_pos h3]
        have := hw.2.2.2.1 (i - (ln r - k) - 1) (by omega)
        exact ⟨fun q => by omega, fun q => absurd q h2⟩
      · rw [if_neg h3]; exact ⟨fun q => by omega, fun q => absurd q h2⟩
theorem ln_tr {r k : Nat} (hw : isW r) (hk : k ≤ ln r) : ln (tr r k) = ln r + 1 := by
  have h7 := hw.2.2.1
  refine ln_is (by omega) (fun i hi => ?_) (fun h => ?_)
  · rw [dg_tr _ _ (by omega)]; exact (td_nz hw hk).mpr (by omega)
  · rw [dg_tr _ _ (by omega)]
    exact Classical.byContradiction fun q => by have := (td_nz hw hk).mp q; omega
theorem tr_inj {r s k j : Nat} (wr : isW r) (ws : isW s) (hk : k ≤ ln r) (hj : j ≤ ln s) (h : tr r k = tr s j) : r = s ∧ k = j := by
  have r7 := wr.2.2.1; have s7 := ws.2.2.1
  have e1 : ln r = ln s := by have a := ln_tr wr hk; have b := ln_tr ws hj; rw [h] at a; omega
  have ed : ∀ i, i < 8 → td r k i = td s j i := fun i hi => by rw [← dg_tr r k hi, ← dg_tr s j hi, h]
  have e2 : k = j := by
    have a := (td_one (i := ln r - k) wr hk).mpr rfl
    rw [ed _ (by omega)] at a
    have := (td_one ws hj).mp a
    omega
  subst e2
  refine ⟨dg_ext wr.1 ws.1 (fun i hi => ?_), rfl⟩
  by_cases hi2 : ln r ≤ i
  · rw [wr.2.2.2.2 i hi2, ws.2.2.2.2 i (by omega)]
  · by_cases hik : k ≤ i
    · have a := ed (i - k) (by omega)
      unfold td at a
      rw [if_pos (by omega), if_pos (by omega), show k + (i - k) = i by omega] at a
      exact a
    · have a := ed (i + (ln r - k) + 1) (by omega)
      unfold td at a
      rw [if_neg (by omega), if_neg (by omega), if_pos (by omega), if_neg (by omega), if_neg (by omega), if_pos (by omega)] at a
      rw [show i + (ln r - k) + 1 - (ln r - k) - 1 = i by omega, show i + (ln r - k) + 1 - (ln s - k) - 1 = i by omega] at a
      exact a
/-! ===== all turns, in order ===== -/
/-- the key of a turn -/
def ky (d : Nat → Nat) (w k : Nat) : Nat := tr (d w) k * 512 + w * 8 + k
theorem ky_lt (d : Nat → Nat) {w k : Nat} (hw : w < 40) (hk : k < 8) : ky d w k < 562949953421312 := by
  have := tr_lt (d w) k
  unfold ky; omega
theorem ky_inj {d : Nat → Nat} {w k w' k' : Nat} (h1 : w < 64) (h2 : k < 8) (h3 : w' < 64) (h4 : k' < 8) (h : ky d w k = ky d w' k') : w = w' ∧ k = k' ∧ tr (d w) k = tr (d w') k' := by
  unfold ky at h; omega
/-- how many turns the first w words have -/
def tot (d : Nat → Nat) (w : Nat) : Nat := fb_sm (fun w => ln (d w) + 1) w
theorem tot_s (d : Nat → Nat) (w : Nat) : tot d (w + 1) = tot d w + (ln (d w) + 1) := fb_sm_succ _ w
/-- the turns up to turn k of word w stand in order -/
def PX (d : Nat → Nat) (w k n : Nat) (W F : Nat → Nat) : Prop := n = tot d w + k ∧ (∀ t, t < n → (W t < w ∨ (W t = w ∧ F t < k)) ∧ F t ≤ ln (d (W t))) ∧ Inc (fun t => ky d (W t) (F t)) n ∧ ∀ w' k', ((w' < w ∧ k' ≤ ln (d w')) ∨ (w' = w ∧ k' < k)) → ∃ t, t < n ∧ W t = w' ∧ F t = k'
theorem PX_0 (d W F : Nat → Nat) : PX d 0 0 0 W F := ⟨rfl, fun t h => by omega, fun i j h1 h2 => by omega, fun w' k' h => by omega⟩
theorem PX_next {d : Nat → Nat} {w n : Nat} {W F : Nat → Nat} (h : PX d w (ln (d w) + 1) n W F) : PX d (w + 1) 0 n W F := by
  obtain ⟨h1, h2, h3, h4⟩ := h
  refine ⟨by rw [tot_s]; omega, fun t ht => ?_, h3, fun w' k' hw => ?_⟩
  · obtain ⟨a, b⟩ := h2 t ht
    exact ⟨by omega, b⟩
  · rcases hw with ⟨a, b⟩ | ⟨a, b⟩
    · by_cases q : w' = w
      · exact h4 w' k' (Or.inr ⟨q, by rw [q] at b; omega⟩)
      · exact h4 w' k' (Or.inl ⟨by omega, b⟩)
    · omega
theorem insF_ky (d W F : Nat → Nat) (p w k : Nat) : (fun t => ky d (insF W p w t) (insF F p k t)) = insF (fun t => ky d (W t) (F t)) p (ky d w k) := by
  funext t
  unfold insF
  by_cases h1 : t < p
  · rw [if_pos h1, if_pos h1, if_pos h1]
  · rw [if_neg h1, if_neg h1, if_neg h1]
    by_cases h2 : t = p
    · rw [if_pos h2, if_pos h2, if_pos h2]
    · rw [if_neg h2, if_neg h2, if_neg h2]
theorem PX_new {d : Nat → Nat} {w k n : Nat} {W F : Nat → Nat} (h : PX d w k n W F) (hw : w < 40) (hk : k < 8) (h8 : ∀ v, v ≤ w → ln (d v) ≤ 7) : ¬ ∃ t, t < n ∧ (fun t => ky d (W t) (F t)) t = ky d w k := by
  rintro ⟨t, ht, he⟩
  obtain ⟨a, b⟩ := h.2.1 t ht
  have := h8 (W t) (by omega)
  have := ky_inj (d := d) (by omega) (by omega) (by omega) (by omega) he
  omega
theorem PX_add {d : Nat → Nat} {w k n : Nat} {W F : Nat → Nat} (h : PX d w k n W F) (hw : w < 40) (hk : k ≤ ln (d w)) (h8 : ∀ v, v ≤ w → ln (d v) ≤ 7) : PX d w (k + 1) (n + 1) (insF W (bl (fun t => ky d (W t) (F t)) n (ky d w k)) w) (insF F (bl (fun t => ky d (W t) (F t)) n (ky d w k)) k) := by
  have hk8 := h8 w (Nat.le_refl w)
  have hn := PX_new h hw (by omega) h8
  obtain ⟨h1, h2, h3, h4⟩ := h
  have hb := bl_le (fun t => ky d (W t) (F t)) n (ky d w k)
  refine ⟨by omega, fun t ht => ?_, ?_, fun w' k' hh => ?_⟩
  · unfold insF
    by_cases c1 : t < bl (fun t => ky d (W t) (F t)) n (ky d w k)
    · rw [if_pos c1, if_pos c1]
      obtain ⟨a, b⟩ := h2 t (by omega)
      exact ⟨by omega, b⟩
    · rw [if_neg c1, if_neg c1]
      by_cases c2 : t = bl (fun t => ky d (W t) (F t)) n (ky d w k)
      · rw [if_pos c2, if_pos c2]; exact ⟨Or.inr ⟨rfl, by omega⟩, hk⟩
      · rw [if_neg c2, if_neg c2]
        obtain ⟨a, b⟩ := h2 (t - 1) (by omega)
        exact ⟨by omega, b⟩
  · rw [insF_ky]; exact ins_inc h3 hn
  · by_cases q : w' = w ∧ k' = k
    · refine ⟨bl (fun t => ky d (W t) (F t)) n (ky d w k), by omega, ?_, ?_⟩
      · unfold insF; rw [if_neg (Nat.lt_irrefl _), if_pos rfl, q.1]
      · unfold insF; rw [if_neg (Nat.lt_irrefl _), if_pos rfl, q.2]
    · obtain ⟨t, t1, t2, t3⟩ := h4 w' k' (by omega)
      by_cases c1 : t < bl (fun t => ky d (W t) (F t)) n (ky d w k)
      · exact ⟨t, by omega, by unfold insF; rw [if_pos c1]; exact t2, by unfold insF; rw [if_pos c1]; exact t3⟩
      · refine ⟨t + 1, by omega, ?_, ?_⟩
        · unfold insF; rw [if_neg (by omega), if_neg (by omega)]; exact t2
        · unfold insF; rw [if_neg (by omega), if_neg (by omega)]; exact t3
/-- the whole index of a dictionary -/
def IX (m : Nat) (d : Nat → Nat) (n : Nat) (W F : Nat → Nat) : Prop := PX d m 0 n W F
/-- it is one alone -/
theorem IX_one {m n : Nat} {d W F W' F' : Nat → Nat} (hD : Dic m d) (h : IX m d n W F) (h' : IX m d n W' F') : ∀ t, t < n → W t = W' t ∧ F t = F' t := by
  obtain ⟨h40, hI, hW⟩ := hD
  have key : ∀ {W F W' F' : Nat → Nat}, IX m d n W F → IX m d n W' F' → ∀ t, t < n → (∀ s, s < t → W s = W' s ∧ F s = F' s) → ky d (W' t) (F' t) ≤ ky d (W t) (F t) := by
    intro W F W' F' g g' t ht hs
    obtain ⟨g1, g2, g3, g4⟩ := g
    obtain ⟨g1', g2', g3', g4'⟩ := g'
    obtain ⟨a, b⟩ := g2 t ht
    obtain ⟨s, s1, s2, s3⟩ := g4' (W t) (F t) (Or.inl ⟨by omega, b⟩)
    rcases Nat.lt_trichotomy s t with q | q | q
    · have e := hs s q
      have : ky d (W s) (F s) < ky d (W t) (F t) := g3 s t q ht
      rw [e.1, e.2, s2, s3] at this
      omega
    · rw [← s2, ← s3, q]; omega
    · have : ky d (W' t) (F' t) < ky d (W' s) (F' s) := g3' t s q s1
      rw [s2, s3] at this
      omega
  intro t
  induction t using Nat.strongRecOn with
  | _ t ih =>
    intro ht
    have hs : ∀ s, s < t → W s = W' s ∧ F s = F' s := fun s hst => ih s hst (by omega)
    have k1 := key h h' t ht hs
    have k2 := key h' h t ht (fun s hst => ⟨(hs s hst).1.symm, (hs s hst).2.symm⟩)
    obtain ⟨a, b⟩ := h.2.1 t ht
    obtain ⟨a', b'⟩ := h'.2.1 t ht
    have l1 := (hW (W t) (by omega)).2.2.1
    have l2 := (hW (W' t) (by omega)).2.2.1
    have := ky_inj (d := d) (w := W t) (k := F t) (w' := W' t) (k' := F' t) (by omega) (by omega) (by omega) (by omega) (by omega)
    exact ⟨this.1, this.2.1⟩
