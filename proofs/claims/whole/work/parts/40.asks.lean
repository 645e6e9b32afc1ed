/-! ===== which place to ask for next ===== -/
/-- so many of the answers below n have this code at the place -/
def cp (p : Nat → Bool) (d : Nat → Nat) (pl c n : Nat) : Nat := fb_ct (fun w => p w && dg (d w) pl == c) n
/-- the most that are alike there -/
def mo (p : Nat → Bool) (d : Nat → Nat) (pl : Nat) : Nat → Nat
  | 0 => 0
  | n + 1 => if p n then max (mo p d pl n) (cp p d pl (dg (d n) pl) (n + 1)) else mo p d pl n
theorem cp_le (p : Nat → Bool) (d : Nat → Nat) (pl c n : Nat) : cp p d pl c n ≤ n := fb_ct_le _ n
theorem mo_le (p : Nat → Bool) (d : Nat → Nat) (pl : Nat) : ∀ n, mo p d pl n ≤ n
  | 0 => Nat.le_refl 0
  | n + 1 => by
    have h1 := mo_le p d pl n
    have h2 := cp_le p d pl (dg (d n) pl) (n + 1)
    rw [mo]; split <;> omega
theorem cp_s {p : Nat → Bool} {d : Nat → Nat} {pl c n : Nat} : cp p d pl c (n + 1) = cp p d pl c n + (if (p n && dg (d n) pl == c) then 1 else 0) := fb_ct_succ _ n
theorem max_if (a b : Nat) (ha : a < 2147483648) (hb : b < 2147483648) : (if nI a < nI b then nI b else nI a) = nI (max a b) := by
  by_cases h : a < b
  · rw [if_pos (nI_lt h hb), Nat.max_eq_right (by omega)]
  · rw [if_neg (nI_nlt (by omega) ha), Nat.max_eq_left (by omega)]
/-- the class -/
theorem e11_mostAlike_33 {N m pl : Nat} {g : Nat → Int64} {d : Nat → Nat} {p : Nat → Bool} (hR : Ris g d m) (hD : Dic m d) (hpl : pl < 8) : ∀ K w al, w ≤ m → m + 1 ≤ K + w → (∀ c, c < 32 → al c = nI (cp p d pl c w)) → ∃ al', fX11_mostAlike_33 N (nI m) g (lN (bs p m)) (nI pl) K (nI (mo p d pl w)) (nI w) al = some (nI (mo p d pl m), al') := by
  have h40 := hD.1
  intro K
  induction K with
  | zero => intro w al h1 h2; omega
  | succ K ih =>
    intro w al h1 h2 ha
    rw [fX11_mostAlike_33, fX7_size, Option.bind_some]
    by_cases hw : m ≤ w
    · rw [if_pos (nI_le hw (by omega)), show w = m by omega]; exact ⟨al, rfl⟩
    · have hwm : w < m := by omega
      have hd := dg_lt (d w) pl
      rw [if_neg (nI_ge (by omega) (by omega)), e7_at hR (by omega) (by omega) (by omega), if_pos hwm, Option.bind_some, e8_codeAt (hD.2.2 w hwm).1 (by omega), Option.bind_some, e0_has (by omega), Option.bind_some, bs_bit, nI_1]
      have hdw : (decide (w < m) && p w) = p w := by simp [hwm]
      rw [hdw]
      cases hp : p w with
      | false =>
        rw [if_pos (ib0.mpr rfl)]
        have e : mo p d pl (w + 1) = mo p d pl w := by rw [mo, hp]; rfl
        have ih' := ih (w + 1) al (by omega) (by omega) (fun c hc => by rw [cp_s, hp, ha c hc]; rfl)
        rw [e] at ih'; exact ih'
      | true =>
        have e : mo p d pl (w + 1) = max (mo p d pl w) (cp p d pl (dg (d w) pl) (w + 1)) := by rw [mo, hp]; rfl
        have hc1 := cp_le p d pl (dg (d w) pl) (w + 1)
        have hm1 := mo_le p d pl w
        have ec : cp p d pl (dg (d w) pl) (w + 1) = cp p d pl (dg (d w) pl) w + 1 := by rw [cp_s, hp]; simp
        rw [if_neg (by decide), if_neg (nI_pos (by omega)), if_neg (show ¬ Int32.ofNat 32 ≤ nI (dg (d w) pl) from nI_ge (by omega) (by omega)), gi (by omega) (by decide), gi (by omega) (by decide), gi (by omega) (by decide), nI_clamp (by omega), pk_us, ha _ hd, nI_1, ← ec, max_if _ _ (by omega) (by omega), ← e]
        refine ih (w + 1) _ (by omega) (by omega) (fun c hc => ?_)
        by_cases hcc : c = dg (d w) pl
        · rw [hcc, pk_us]
        · rw [pk_un hcc, ha c hc, cp_s, hp]
          have : (dg (d w) pl == c) = false := by simp; exact fun z => hcc z.symm
          rw [this]; rfl
theorem e11_mostAlike_3 {N m pl : Nat} {g : Nat → Int64} {d : Nat → Nat} {p : Nat → Bool} (hN : 1000 ≤ N) (hR : Ris g d m) (hD : Dic m d) (hpl : pl < 8) : ∀ K i al, i ≤ 32 → 33 ≤ K + i → (∀ c, c < i → al c = nI 0) → ∃ al', fX11_mostAlike_3 N (nI m) g (lN (bs p m)) (nI pl) K (nI i) al = some (nI (mo p d pl m), al') := by
  have h40 := hD.1
  intro K
  induction K with
  | zero => intro i al h1 h2; omega
  | succ K ih =>
    intro i al h1 h2 ha
    rw [fX11_mostAlike_3]
    by_cases hi : 32 ≤ i
    · rw [if_pos (show Int32.ofNat 32 ≤ nI i from nI_le hi (by omega))]
      exact e11_mostAlike_33 hR hD hpl N 0 al (by omega) (by omega) (fun c hc => ha c (by omega))
    · rw [if_neg (show ¬ Int32.ofNat 32 ≤ nI i from nI_ge (by omega) (by omega)), gi (by omega) (by decide), nI_clamp (by omega), nI_1]
      refine ih (i + 1) _ (by omega) (by omega) (fun c hc => ?_)
      by_cases hci : c = i
      · rw [hci, pk_us]; rfl
      · rw [pk_un hci]; exact ha c (by omega)
theorem e11_mostAlike {N m pl : Nat} {g : Nat → Int64} {al : Nat → Int32} {d : Nat → Nat} {p : Nat → Bool} (hN : 1000 ≤ N) (hR : Ris g d m) (hD : Dic m d) (hpl : pl < 8) : ∃ al', fX11_mostAlike N (nI m) g al (lN (bs p m)) (nI pl) = some (nI (mo p d pl m), al') := by
  unfold fX11_mostAlike
  exact e11_mostAlike_3 hN hR hD hpl N 0 al (by omega) (by omega) (fun c hc => by omega)
/-- the model -/
theorem e12_mostAlike_84 {N w c M C : Nat} {f al : Nat → Int32} {x : Int32} (rc : Int32 → Int32 → (Nat → Int32) → Option (Int32 × (Nat → Int32))) (hc : c < 128) (ha : al c = nI C) (hC : C < 1000) (hM : M < 1000) : fX12_mostAlike_84 N f x rc (nI c) (nI M) (nI w) al = rc (nI (max M (C + 1))) (nI (w + 1)) (upd al c (nI (C + 1))) := by
  unfold fX12_mostAlike_84
  rw [gi (by omega) (by decide), gi (by omega) (by decide), gi (by omega) (by decide), gi (by omega) (by decide), nI_clamp (by omega), pk_us, ha, nI_1, nI_1]
  by_cases h : C + 1 ≤ M
  · rw [if_pos (nI_le h (by omega)), Nat.max_eq_left h]
  · rw [if_neg (nI_ge (by omega) (by omega)), Nat.max_eq_right (by omega)]
theorem e12_mostAlike_26 {N m P pl : Nat} {f : Nat → Int32} {d q : Nat → Nat} (hN : 1000 ≤ N) (hD : Dic m d) (hA : DA f 0 d m) (hq : PT q P) (hP : PA f 430 q P) (hpl : pl < 8) : ∀ K w al, w ≤ m → m + 1 ≤ K + w → (∀ c, c < 32 → al (sg c) = nI (cp (fun w => mt q P (d w)) d pl c w)) → ∃ al', fX12_mostAlike_26 N f (nI pl) K (nI (mo (fun w => mt q P (d w)) d pl w)) (nI w) al = some (nI (mo (fun w => mt q P (d w)) d pl m), al') := by
  have h40 := hD.1
  intro K
  induction K with
  | zero => intro w al h1 h2; omega
  | succ K ih =>
    intro w al h1 h2 ha
    rw [fX12_mostAlike_26, g0 (by decide), sb_cl0, hA.1]
    by_cases hw : m ≤ w
    · rw [if_pos (nI_le hw (by omega)), show w = m by omega]; exact ⟨al, rfl⟩
    · have hwm : w < m := by omega
      have hww := hD.2.2 w hwm
      have l7 := hww.2.2.1
      have hd := dg_lt (d w) pl
      have hsg := sg_lt hd
      rw [if_neg (nI_ge (by omega) (by omega)), e12_wordAt0, Option.bind_some, show (430 : Int32) = nI 430 from rfl, e12_meets hN (by omega) hq hP (hA.2 w hwm) (by omega) l7, Option.bind_some, nI_1]
      cases hp : mt q P (d w) with
      | false =>
        rw [if_pos (ib0.mpr rfl)]
        have e : mo (fun w => mt q P (d w)) d pl (w + 1) = mo (fun w => mt q P (d w)) d pl w := by rw [mo, hp]; rfl
        have ih' := ih (w + 1) al (by omega) (by omega) (fun c hc => by rw [cp_s, hp, ha c hc]; rfl)
        rw [e] at ih'; exact ih'
      | true =>
        have e : mo (fun w => mt q P (d w)) d pl (w + 1) = max (mo (fun w => mt q P (d w)) d pl w) (cp (fun w => mt q P (d w)) d pl (dg (d w) pl) (w + 1)) := by rw [mo, hp]; rfl
        have hc1 := cp_le (fun w => mt q P (d w)) d pl (dg (d w) pl) w
        have hm1 := mo_le (fun w => mt q P (d w)) d pl w
        have ec : cp (fun w => mt q P (d w)) d pl (dg (d w) pl) (w + 1) = cp (fun w => mt q P (d w)) d pl (dg (d w) pl) w + 1 := by rw [cp_s, hp]; simp
        have fin : fX12_mostAlike_84 N f (nI pl) (fX12_mostAlike_26 N f (nI pl) K) (nI (sg (dg (d w) pl))) (nI (mo (fun w => mt q P (d w)) d pl w)) (nI w) al = fX12_mostAlike_26 N f (nI pl) K (nI (mo (fun w => mt q P (d w)) d pl (w + 1))) (nI (w + 1)) (upd al (sg (dg (d w) pl)) (nI (cp (fun w => mt q P (d w)) d pl (dg (d w) pl) (w + 1)))) := by
          rw [e12_mostAlike_84 _ hsg (ha _ hd) (by omega) (by omega), ← ec, ← e]
        have goal : ∃ al', fX12_mostAlike_26 N f (nI pl) K (nI (mo (fun w => mt q P (d w)) d pl (w + 1))) (nI (w + 1)) (upd al (sg (dg (d w) pl)) (nI (cp (fun w => mt q P (d w)) d pl (dg (d w) pl) (w + 1)))) = some (nI (mo (fun w => mt q P (d w)) d pl m), al') := by
          refine ih (w + 1) _ (by omega) (by omega) (fun c hc => ?_)
          by_cases hcc : c = dg (d w) pl
          · rw [hcc, pk_us]
          · rw [pk_un (fun z => hcc (sg_inj z)), ha c hc, cp_s, hp]
            have : (dg (d w) pl == c) = false := by simp; exact fun z => hcc z.symm
            rw [this]; rfl
        rw [if_neg (by decide), gi (by omega) (by decide), nI_clamp (by omega), (hA.2 w hwm).1]
        by_cases hpl2 : ln (d w) ≤ pl
        · have hz : dg (d w) pl = 0 := hww.2.2.2.2 pl hpl2
          rw [if_pos (nI_le hpl2 (by omega))]
          rw [show (0 : Int32) = nI (sg (dg (d w) pl)) by rw [hz]; rfl, fin]
          exact goal
        · rw [if_neg (nI_ge (by omega) (by omega)), nI_1, nI_add, gi (by omega) (by decide), nI_clamp (by omega), (hA.2 w hwm).2 pl (by omega), fin]
          exact goal
theorem e12_mostAlike_4 {N m P pl : Nat} {f : Nat → Int32} {d q : Nat → Nat} (hN : 1000 ≤ N) (hD : Dic m d) (hA : DA f 0 d m) (hq : PT q P) (hP : PA f 430 q P) (hpl : pl < 8) : ∀ K i al, i ≤ 128 → 129 ≤ K + i → (∀ c, c < i → al c = nI 0) → ∃ al', fX12_mostAlike_4 N f (nI pl) K (nI 0) (nI i) al = some (nI (mo (fun w => mt q P (d w)) d pl m), al') := by
  have h40 := hD.1
  intro K
  induction K with
  | zero => intro i al h1 h2; omega
  | succ K ih =>
    intro i al h1 h2 ha
    rw [fX12_mostAlike_4]
    by_cases hi : 128 ≤ i
    · rw [if_pos (show (128 : Int32) ≤ nI i from nI_le (a := 128) hi (by omega))]
      exact e12_mostAlike_26 hN hD hA hq hP hpl N 0 al (by omega) (by omega) (fun c hc => ha _ (by have := sg_lt hc; omega))
    · rw [if_neg (show ¬ (128 : Int32) ≤ nI i from nI_ge (b := 128) (by omega) (by omega)), gi (by omega) (by decide), nI_clamp (by omega), nI_1]
      refine ih (i + 1) _ (by omega) (by omega) (fun c hc => ?_)
      by_cases hci : c = i
      · rw [hci, pk_us]; rfl
      · rw [pk_un hci]; exact ha c (by omega)
theorem e12_mostAlike {N m P pl : Nat} {f al : Nat → Int32} {d q : Nat → Nat} (hN : 1000 ≤ N) (hD : Dic m d) (hA : DA f 0 d m) (hq : PT q P) (hP : PA f 430 q P) (hpl : pl < 8) : ∃ al', fX12_mostAlike N f al (nI pl) = some (nI (mo (fun w => mt q P (d w)) d pl m), al') := by
  unfold fX12_mostAlike
  exact e12_mostAlike_4 hN hD hA hq hP hpl N 0 al (by omega) (by omega) (fun c hc => by omega)
/-- the best of the places below i -/
def bp (p : Nat → Bool) (d : Nat → Nat) (m : Nat) : Nat → Nat
  | 0 => 0
  | i + 1 => if mo p d i m < mo p d (bp p d m i) m then i else bp p d m i
theorem bp_le (p : Nat → Bool) (d : Nat → Nat) (m : Nat) : ∀ i, bp p d m i ≤ i
  | 0 => Nat.le_refl 0
  | i + 1 => by
    have := bp_le p d m i
    rw [bp]; split <;> omega
theorem e11_ask_l {N m : Nat} {g : Nat → Int64} {d : Nat → Nat} {p : Nat → Bool} (hN : 1000 ≤ N) (hR : Ris g d m) (hD : Dic m d) : ∀ K i al, i ≤ 7 → 8 ≤ K + i → ∃ al', fX11_placeToAsk_21 N (nI m) g (lN (bs p m)) K (nI (bp p d m i)) (nI (mo p d (bp p d m i) m)) (nI i) al = some (nI (bp p d m 7), al') := by
  have h40 := hD.1
  intro K
  induction K with
  | zero => intro i al h1 h2; omega
  | succ K ih =>
    intro i al h1 h2
    rw [fX11_placeToAsk_21]
    by_cases hi : 7 ≤ i
    · rw [if_pos (show (7 : Int32) ≤ nI i from nI_le (a := 7) hi (by omega)), show i = 7 by omega]; exact ⟨al, rfl⟩
    · rw [if_neg (show ¬ (7 : Int32) ≤ nI i from nI_ge (b := 7) (by omega) (by omega))]
      obtain ⟨al1, e1⟩ := e11_mostAlike (al := al) (p := p) hN hR hD (show i < 8 by omega)
      rw [e1, Option.bind_some, nI_1]
      dsimp only
      have m1 := mo_le p d i m; have m2 := mo_le p d (bp p d m i) m
      have ih' := ih (i + 1) al1 (by omega) (by omega)
      rw [bp] at ih'
      by_cases h : mo p d i m < mo p d (bp p d m i) m
      · rw [if_neg (nI_ge h (by omega))]; rw [if_pos h] at ih'; exact ih'
      · rw [if_pos (nI_le (by omega) (by omega))]; rw [if_neg h] at ih'; exact ih'
theorem e12_ask_l {N m P : Nat} {f : Nat → Int32} {d q : Nat → Nat} (hN : 1000 ≤ N) (hD : Dic m d) (hA : DA f 0 d m) (hq : PT q P) (hP : PA f 430 q P) : ∀ K i al, i ≤ 7 → 8 ≤ K + i → ∃ al', fX12_asks_4 N f K (nI (bp (fun w => mt q P (d w)) d m i)) (nI i) al = some (if fb_ct (fun w => mt q P (d w)) m = 0 then -1 else nI (bp (fun w => mt q P (d w)) d m 7), al') := by
  have h40 := hD.1
  intro K
  induction K with
  | zero => intro i al h1 h2; omega
  | succ K ih =>
    intro i al h1 h2
    rw [fX12_asks_4]
    by_cases hi : 7 ≤ i
    · rw [if_pos (show (7 : Int32) ≤ nI i from nI_le (a := 7) hi (by omega)), show i = 7 by omega, show fX12_answers N f 0 430 = some (nI (fb_ct (fun w => mt q P (d w)) m)) from e12_answers (b := 0) (p := 430) hN hD hA (by omega) (by omega) hq hP, Option.bind_some]
      have hc : fb_ct (fun w => mt q P (d w)) m ≤ m := fb_ct_le _ m
      by_cases h0 : fb_ct (fun w => mt q P (d w)) m = 0
      · rw [if_pos ((n0 (by omega)).mpr h0), if_pos h0]; exact ⟨al, rfl⟩
      · rw [if_neg (fun z => h0 ((n0 (by omega)).mp z)), if_neg h0]; exact ⟨al, rfl⟩
    · have hb := bp_le (fun w => mt q P (d w)) d m i
      rw [if_neg (show ¬ (7 : Int32) ≤ nI i from nI_ge (b := 7) (by omega) (by omega))]
      obtain ⟨al1, e1⟩ := e12_mostAlike (al := al) hN hD hA hq hP (show i < 8 by omega)
      rw [e1, Option.bind_some]
      dsimp only
      obtain ⟨al2, e2⟩ := e12_mostAlike (al := al1) hN hD hA hq hP (show bp (fun w => mt q P (d w)) d m i < 8 by omega)
      rw [e2, Option.bind_some, nI_1]
      dsimp only
      have m1 := mo_le (fun w => mt q P (d w)) d i m; have m2 := mo_le (fun w => mt q P (d w)) d (bp (fun w => mt q P (d w)) d m i) m
      have ih' := ih (i + 1) al2 (by omega) (by omega)
      rw [bp] at ih'
      by_cases h : mo (fun w => mt q P (d w)) d i m < mo (fun w => mt q P (d w)) d (bp (fun w => mt q P (d w)) d m i) m
      · rw [if_neg (nI_ge h (by omega))]; rw [if_pos h] at ih'; exact ih'
      · rw [if_pos (nI_le (by omega) (by omega))]; rw [if_neg h] at ih'; exact ih'
/-- promise 11, what 12 -/
theorem op_asks {N m P : Nat} {f ac am : Nat → Int32} {g : Nat → Int64} {d q : Nat → Nat} (hN : 1000 ≤ N) (hD : Dic m d) (hR : Ris g d m) (hA : DA f 0 d m) (hq : PT q P) (hP : PA f 430 q P) : ∃ r ac' am', fX11_placeToAsk N (nI m) g ac (lN (bs (fun w => mt q P (d w)) m)) = some (r, ac') ∧ fX12_asks N f am = some (r, am') := by
  have h40 := hD.1
  have hb1 : bp (fun w => mt q P (d w)) d m 1 = 0 := by rw [bp, bp, if_neg (by omega)]
  obtain ⟨am', c1⟩ := e12_ask_l hN hD hA hq hP N 1 am (by omega) (by omega)
  rw [hb1] at c1
  unfold fX11_placeToAsk fX12_asks
  have hlt := bs_lt40 (p := fun w => mt q P (d w)) h40
  have hz : (lg_cmp (lN (bs (fun w => mt q P (d w)) m)) 0 = 0) ↔ fb_ct (fun w => mt q P (d w)) m = 0 := by
    rw [lg_cmp_eq, show (0 : Int64) = lN 0 from rfl, pk_lEQ (by omega) (by decide)]
    constructor
    · intro h
      rw [← bs_count h40, h]
      exact fb_ct_zero.mpr (fun k _ => Nat.zero_testBit k)
    · intro h
      apply Nat.eq_of_testBit_eq
      intro j
      rw [bs_bit, Nat.zero_testBit]
      by_cases hj : j < m
      · simp [hj, fb_ct_zero.mp h j hj]
      · simp [hj]
  by_cases h0 : fb_ct (fun w => mt q P (d w)) m = 0
  · rw [if_pos (hz.mpr h0)]
    rw [if_pos h0] at c1
    exact ⟨-1, ac, am', rfl, c1⟩
  · rw [if_neg (fun z => h0 (hz.mp z))]
    rw [if_neg h0] at c1
    obtain ⟨al1, e1⟩ := e11_mostAlike (al := ac) (p := fun w => mt q P (d w)) (pl := 0) hN hR hD (by decide)
    rw [show fX11_mostAlike N (nI m) g ac (lN (bs (fun w => mt q P (d w)) m)) 0 = _ from e1, Option.bind_some]
    dsimp only
    obtain ⟨al2, e2⟩ := e11_ask_l (p := fun w => mt q P (d w)) hN hR hD N 1 al1 (by omega) (by omega)
    rw [hb1] at e2
    exact ⟨_, al2, am', e2, c1⟩
