/-! ===== letters, and words that begin alone ===== -/
theorem e12_letters_l {N m : Nat} {f : Nat → Int32} {d : Nat → Nat} (hD : Dic m d) (hA : DA f 0 d m) : ∀ K w, w ≤ m → m + 1 ≤ K + w → fX12_letters_4 N f K (nI (fb_sm (fun w => ln (d w)) w)) (nI w) = some (nI (fb_sm (fun w => ln (d w)) m)) := by
  have h40 := hD.1
  intro K
  induction K with
  | zero => intro w h1 h2; omega
  | succ K ih =>
    intro w h1 h2
    rw [fX12_letters_4, g0 (by decide), sb_cl0, hA.1]
    by_cases hw : m ≤ w
    · rw [if_pos (nI_le hw (by omega)), show w = m by omega]
    · rw [if_neg (nI_ge (by omega) (by omega)), e12_wordAt0, Option.bind_some, gi (by omega) (by decide), nI_clamp (by omega), (hA.2 w (by omega)).1, nI_add, nI_1]
      have ih' := ih (w + 1) (by omega) (by omega)
      rw [fb_sm_succ] at ih'
      exact ih'
theorem e12_letters {N m : Nat} {f : Nat → Int32} {d : Nat → Nat} (hN : 1000 ≤ N) (hD : Dic m d) (hA : DA f 0 d m) : fX12_letters N f = some (nI (fb_sm (fun w => ln (d w)) m)) := by
  have h40 := hD.1
  unfold fX12_letters
  exact e12_letters_l hD hA N 0 (by omega) (by omega)
/-- no other word begins so -/
def alo (d : Nat → Nat) (w n : Nat) : Bool := decide (∀ v, v < n → v ≠ w → dg (d v) 0 ≠ dg (d w) 0)
theorem alo_s {d : Nat → Nat} {w n : Nat} : alo d w (n + 1) = (alo d w n && (n == w || dg (d n) 0 != dg (d w) 0)) := by
  unfold alo
  rw [Bool.eq_iff_iff]
  simp only [decide_eq_true_eq, Bool.and_eq_true, Bool.or_eq_true, beq_iff_eq, bne_iff_ne]
  constructor
  · intro h
    refine ⟨fun v hv => h v (by omega), ?_⟩
    by_cases hn : n = w
    · exact Or.inl hn
    · exact Or.inr (h n (by omega) hn)
  · rintro ⟨h1, h2⟩ v hv hne
    by_cases hvn : v = n
    · subst hvn; exact h2.resolve_left hne
    · exact h1 v (by omega) hne
theorem WA_first {f : Nat → Int32} {x r : Nat} (hx : WA f x r) (hw : isW r) : f (x + 1) = nI (sg (dg r 0)) := by
  have := hx.2 0 hw.2.1
  exact this
theorem e12_firstAlone_19 {N m w c : Nat} {f : Nat → Int32} {d : Nat → Nat} (rc : Int32 → Int32 → Option Int32) (hD : Dic m d) (hA : DA f 0 d m) (hw : w < m) : ∀ K v, v ≤ m → m + 1 ≤ K + v → fX12_firstAlone_19 N f rc K (nI c) (nI w) (nI (if alo d w v then 1 else 0)) (nI v) = rc (nI (c + if alo d w m then 1 else 0)) (nI (w + 1)) := by
  have h40 := hD.1
  intro K
  induction K with
  | zero => intro v h1 h2; omega
  | succ K ih =>
    intro v h1 h2
    rw [fX12_firstAlone_19, g0 (by decide), sb_cl0, hA.1]
    by_cases hv : m ≤ v
    · rw [if_pos (nI_le hv (by omega)), show v = m by omega, nI_1, nI_1, show nI c + 0 = nI c from nI_add c 0]
      cases alo d w m <;> rfl
    · have ih' := ih (v + 1) (by omega) (by omega)
      rw [alo_s] at ih'
      rw [if_neg (nI_ge (by omega) (by omega)), e12_wordAt0, Option.bind_some, nI_1, nI_1, gi (by omega) (by decide), nI_clamp (by omega), e12_wordAt0, Option.bind_some, nI_1, gi (by omega) (by decide), nI_clamp (by omega), WA_first (hA.2 v (by omega)) (hD.2.2 v (by omega)), WA_first (hA.2 w hw) (hD.2.2 w hw)]
      have s1 := sg_lt (dg_lt (d v) 0); have s2 := sg_lt (dg_lt (d w) 0)
      cases hb : alo d w v with
      | false =>
        rw [hb] at ih'
        rw [if_pos (show nI (if false = true then 1 else 0) = 0 from rfl)]
        exact ih'
      | true =>
        rw [hb] at ih'
        rw [if_neg (by decide)]
        by_cases hvw : v = w
        · rw [if_pos (by rw [hvw])]
          have e : (v == w || dg (d v) 0 != dg (d w) 0) = true := by simp [hvw]
          rw [e] at ih'; exact ih'
        · rw [if_neg (fun z => hvw ((nI_eq (by omega) (by omega)).mp z))]
          by_cases hd : dg (d v) 0 = dg (d w) 0
          · rw [if_pos (by rw [hd])]
            have e : (v == w || dg (d v) 0 != dg (d w) 0) = false := by simp [hvw, hd]
            rw [e] at ih'; exact ih'
          · rw [if_neg (fun z => hd (sg_inj ((nI_eq (by omega) (by omega)).mp z)))]
            have e : (v == w || dg (d v) 0 != dg (d w) 0) = true := by simp [hd]
            rw [e] at ih'; exact ih'
theorem e12_firstAlone_l {N m : Nat} {f : Nat → Int32} {d : Nat → Nat} (hN : 1000 ≤ N) (hD : Dic m d) (hA : DA f 0 d m) : ∀ K w, w ≤ m → m + 1 ≤ K + w → fX12_firstAlone_4 N f K (nI (fb_ct (fun w => alo d w m) w)) (nI w) = some (nI (fb_ct (fun w => alo d w m) m)) := by
  have h40 := hD.1
  intro K
  induction K with
  | zero => intro w h1 h2; omega
  | succ K ih =>
    intro w h1 h2
    rw [fX12_firstAlone_4, g0 (by decide), sb_cl0, hA.1]
    by_cases hw : m ≤ w
    · rw [if_pos (nI_le hw (by omega)), show w = m by omega]
    · have h0 : alo d w 0 = true := by unfold alo; simp
      have h := e12_firstAlone_19 (N := N) (c := fb_ct (fun w => alo d w m) w) (fX12_firstAlone_4 N f K) hD hA (show w < m by omega) N 0 (by omega) (by omega)
      rw [h0] at h
      rw [if_neg (nI_ge (by omega) (by omega))]
      rw [show (1 : Int32) = nI (if true = true then 1 else 0) from rfl, show (0 : Int32) = nI 0 from rfl, h]
      have ih' := ih (w + 1) (by omega) (by omega)
      rw [fb_ct_succ] at ih'
      exact ih'
theorem dg0_mono {r s : Nat} (hs : s < 1099511627776) (h : r ≤ s) : dg r 0 ≤ dg s 0 := by
  unfold dg
  rw [if_pos (by decide), if_pos (by decide)]
  have e : (32 : Nat) ^ (7 - 0) = 34359738368 := by decide
  rw [e]; omega
/-- neighbours alone decide -/
theorem alo_nb {m w : Nat} {d : Nat → Nat} (hD : Dic m d) (hw : w < m) : alo d w m = (dg (d w) 0 != dg (if 0 < w then d (w - 1) else 0) 0 && dg (d w) 0 != dg (if w + 1 < m then d (w + 1) else 0) 0) := by
  obtain ⟨h40, hI, hW⟩ := hD
  have hz : dg 0 0 = 0 := by decide
  have hw0 : dg (d w) 0 ≠ 0 := ln_no (hW w hw).2.1
  unfold alo
  rw [Bool.eq_iff_iff]
  simp only [decide_eq_true_eq, Bool.and_eq_true, bne_iff_ne]
  constructor
  · intro h
    constructor
    · by_cases h0 : 0 < w
      · rw [if_pos h0]; exact fun z => h (w - 1) (by omega) (by omega) z.symm
      · rw [if_neg h0, hz]; exact hw0
    · by_cases h1 : w + 1 < m
      · rw [if_pos h1]; exact fun z => h (w + 1) h1 (by omega) z.symm
      · rw [if_neg h1, hz]; exact hw0
  · rintro ⟨h1, h2⟩ v hv hne he
    rcases Nat.lt_or_gt_of_ne hne with hlt | hgt
    · rw [if_pos (by omega)] at h1
      have a1 : d v ≤ d (w - 1) := by
        by_cases q : v = w - 1
        · rw [q]; omega
        · exact Nat.le_of_lt (hI v (w - 1) (by omega) (by omega))
      have a2 : d (w - 1) ≤ d w := Nat.le_of_lt (hI _ _ (by omega) hw)
      have b1 := dg0_mono (hW (w - 1) (by omega)).1 a1
      have b2 := dg0_mono (hW w hw).1 a2
      omega
    · rw [if_pos (by omega)] at h2
      have a1 : d w ≤ d (w + 1) := Nat.le_of_lt (hI _ _ (by omega) (by omega))
      have a2 : d (w + 1) ≤ d v := by
        by_cases q : v = w + 1
        · rw [q]; omega
        · exact Nat.le_of_lt (hI (w + 1) v (by omega) hv)
      have b1 := dg0_mono (hW (w + 1) (by omega)).1 a1
      have b2 := dg0_mono (hW v hv).1 a2
      omega
theorem e11_alone_l {N m : Nat} {g : Nat → Int64} {d : Nat → Nat} (hR : Ris g d m) (hD : Dic m d) : ∀ K w, w ≤ m → m + 1 ≤ K + w → fX11_wordsThatBeginAlone_4 N (nI m) g K (nI (fb_ct (fun w => alo d w m) w)) (nI w) = some (nI (fb_ct (fun w => alo d w m) m)) := by
  have h40 := hD.1
  intro K
  induction K with
  | zero => intro w h1 h2; omega
  | succ K ih =>
    intro w h1 h2
    rw [fX11_wordsThatBeginAlone_4, fX7_size, Option.bind_some]
    by_cases hw : m ≤ w
    · rw [if_pos (nI_le hw (by omega)), show w = m by omega]
    · have hwm : w < m := by omega
      have hprev : fX7_at 40 (nI m) g (nI w - 1) = some (lN (if 0 < w then d (w - 1) else 0)) := by
        by_cases h0 : 0 < w
        · have e1 : nI w - 1 = nI (w - 1) := pk_sub (b := 1) h0
          rw [e1, e7_at hR (by omega) (by omega) (by omega), if_pos (by omega), if_pos h0]
        · rw [show w = 0 by omega, e7_at_neg (by decide), if_neg (by decide)]; rfl
      have hlt1 : (if 0 < w then d (w - 1) else 0) < 1099511627776 := by
        split
        · exact (hD.2.2 (w - 1) (by omega)).1
        · decide
      have hlt2 : (if w + 1 < m then d (w + 1) else 0) < 1099511627776 := by
        split
        · next h => exact (hD.2.2 (w + 1) h).1
        · decide
      have c0 : ∀ r, r < 1099511627776 → fX8_codeAt (lN r) 0 = some (nI (dg r 0)) := fun r hr => e8_codeAt (i := 0) hr (by decide)
      rw [if_neg (nI_ge (by omega) (by omega)), e7_at hR (by omega) (by omega) (by omega), if_pos hwm, Option.bind_some, c0 _ (hD.2.2 w hwm).1, Option.bind_some, hprev, Option.bind_some, c0 _ hlt1, Option.bind_some, nI_1, nI_1, e7_at hR (by omega) (by omega) (by omega), Option.bind_some, c0 _ hlt2, Option.bind_some]
      have ih' := ih (w + 1) (by omega) (by omega)
      rw [fb_ct_succ, alo_nb hD hwm] at ih'
      have s0 := dg_lt (d w) 0
      have s1 := dg_lt (if 0 < w then d (w - 1) else 0) 0
      have s2 := dg_lt (if w + 1 < m then d (w + 1) else 0) 0
      by_cases ha : dg (d w) 0 = dg (if 0 < w then d (w - 1) else 0) 0
      · rw [if_pos (by rw [← ha])]
        rw [if_neg (by simp [← ha]), Nat.add_zero] at ih'
        exact ih'
      · rw [if_neg (fun z => ha ((nI_eq (by omega) (by omega)).mp z))]
        by_cases hb : dg (d w) 0 = dg (if w + 1 < m then d (w + 1) else 0) 0
        · rw [if_pos (by rw [← hb])]
          rw [if_neg (by simp [← hb]), Nat.add_zero] at ih'
          exact ih'
        · rw [if_neg (fun z => hb ((nI_eq (by omega) (by omega)).mp z))]
          rw [if_pos (by simp [ha, hb])] at ih'
          exact ih'
theorem op_firstAlone {N m : Nat} {f : Nat → Int32} {g : Nat → Int64} {d : Nat → Nat} (hN : 1000 ≤ N) (hD : Dic m d) (hR : Ris g d m) (hA : DA f 0 d m) : ∃ r, fX11_wordsThatBeginAlone N (nI m) g = some r ∧ fX12_firstAlone N f = some r := by
  have h40 := hD.1
  unfold fX11_wordsThatBeginAlone fX12_firstAlone
  exact ⟨_, e11_alone_l hR hD N 0 (by omega) (by omega), e12_firstAlone_l hN hD hA N 0 (by omega) (by omega)⟩
