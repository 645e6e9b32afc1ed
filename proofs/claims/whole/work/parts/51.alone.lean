/-! ===== which few signs tell a word alone ===== -/
def likeB (d W F : Nat → Nat) (w k s t : Nat) : Bool := decide (∀ i, i < s → td (d (W t)) (F t) i = td (d w) k i)
def alB (d W F : Nat → Nat) (n w k s : Nat) : Bool := decide (∀ t, t < n → W t ≠ w → likeB d W F w k s t = false)
theorem hd_tr {r k s : Nat} : hd (tr r k) s = hr s (td r k) := by
  unfold hd hr
  exact mkd_cong (fun i hi => by rw [dg_tr r k hi])
theorem ct_one {p : Nat → Bool} {m w : Nat} (hw : w < m) (hp : p w = true) : fb_ct p m = 1 ↔ ∀ v, v < m → v ≠ w → p v = false := by
  have e : m = w + (1 + (m - (w + 1))) := by omega
  rw [e, fb_ct_split, fb_ct_split]
  have e1 : fb_ct (fun k => p (w + k)) 1 = 1 := fb_ct_all.mpr (fun k hk => by rw [show k = 0 by omega]; exact hp)
  rw [e1]
  constructor
  · intro h v hv hne
    have z1 : fb_ct p w = 0 := by omega
    have z2 : fb_ct (fun k => p (w + (1 + k))) (m - (w + 1)) = 0 := by omega
    by_cases hlt : v < w
    · exact fb_ct_zero.mp z1 v hlt
    · have := fb_ct_zero.mp z2 (v - w - 1) (by omega)
      rw [show w + (1 + (v - w - 1)) = v by omega] at this
      exact this
  · intro h
    have z1 : fb_ct p w = 0 := fb_ct_zero.mpr (fun k hk => h k (by omega) (by omega))
    have z2 : fb_ct (fun k => p (w + (1 + k))) (m - (w + 1)) = 0 := fb_ct_zero.mpr (fun k hk => h _ (by omega) (by omega))
    omega
theorem IX_at {m n w k : Nat} {d W F : Nat → Nat} (hX : IX m d n W F) (hw : w < m) (hk : k ≤ ln (d w)) : ∃ t, t < n ∧ W t = w ∧ F t = k := hX.2.2.2 w k (Or.inl ⟨hw, hk⟩)
/-- the set of words that turn to these signs is this word alone -/
theorem al_ct {m n w k s : Nat} {d W F : Nat → Nat} (hX : IX m d n W F) (hw : w < m) (hk : k ≤ ln (d w)) (hs : s ≤ 8) : (fb_ct (ofB (bg d W F s (td (d w) k)) W n) m = 1) ↔ alB d W F n w k s = true := by
  obtain ⟨t0, ht0, hW0, hF0⟩ := IX_at hX hw hk
  have hself : ofB (bg d W F s (td (d w) k)) W n w = true := ofB_iff.mpr ⟨t0, ht0, hW0, by unfold bg; rw [decide_eq_true_eq]; exact ⟨hs, fun i hi => by rw [hW0, hF0]⟩⟩
  rw [ct_one hw hself]
  unfold alB
  rw [decide_eq_true_eq]
  constructor
  · intro h t ht hne
    have w1 := (IX_w hX ht).1
    have := h (W t) w1 hne
    refine Bool.eq_false_iff.mpr (fun z => ?_)
    unfold likeB at z
    rw [decide_eq_true_eq] at z
    have : ofB (bg d W F s (td (d w) k)) W n (W t) = true := ofB_iff.mpr ⟨t, ht, rfl, by unfold bg; rw [decide_eq_true_eq]; exact ⟨hs, z⟩⟩
    rw [h (W t) w1 hne] at this; cases this
  · intro h v hv hne
    refine Bool.eq_false_iff.mpr (fun z => ?_)
    obtain ⟨t, ht, hWt, hb⟩ := ofB_iff.mp z
    unfold bg at hb
    rw [decide_eq_true_eq] at hb
    have := h t ht (by rw [hWt]; exact hne)
    unfold likeB at this
    rw [decide_eq_false_iff_not] at this
    exact this hb.2
/-- the first k whose signs are alone -/
def fk (d W F : Nat → Nat) (n w s : Nat) : Nat := fa_first (fun k => alB d W F n w k s) (ln (d w) + 1)
theorem e3_firstAlone_l {N m n w s : Nat} {G : Nat → Int64} {d W F : Nat → Nat} (hN : 1000 ≤ N) (hD : Dic m d) (hX : IX m d n W F) (hG : Ris G (fun t => ky d (W t) (F t)) n) (hw : w < m) (h1 : 1 ≤ s) (hs : s ≤ 8) : ∀ K k, k ≤ fk d W F n w s → ln (d w) + 2 ≤ K + k → fX3_firstAlone_19 N (nI n) G (lN (d w)) (nI s) K (nI (ln (d w))) (nI k) = some (if fk d W F n w s ≤ ln (d w) then nI (fk d W F n w s) else -1) := by
  have h40 := hD.1
  have hww := hD.2.2 w hw
  have l7 := hww.2.2.1
  have hfl : fk d W F n w s ≤ ln (d w) + 1 := fa_first_le _ _
  intro K
  induction K with
  | zero => intro k h2 h3; omega
  | succ K ih =>
    intro k h2 h3
    rw [fX3_firstAlone_19]
    by_cases hk : ln (d w) < k
    · rw [if_pos (nI_lt hk (by omega)), if_neg (by omega)]
    · rw [if_neg (nI_nlt (by omega) (by omega)), e8_turned (by omega) hww (by omega), Option.bind_some, e8_head (tr_lt _ _) (by omega), Option.bind_some, hd_tr, e3_words hN hD hX hG (fun i _ => td_lt _ _ i) h1 (by omega), Option.bind_some, e_bitCount (bs_lt40 h40), Option.bind_some, bs_count h40, nI_1]
      have hct := al_ct (s := s) hX hw (show k ≤ ln (d w) by omega) hs
      have hcm : fb_ct (ofB (bg d W F s (td (d w) k)) W n) m ≤ m := fb_ct_le _ _
      by_cases ha : alB d W F n w k s = true
      · rw [if_pos (by rw [hct.mpr ha]; rfl)]
        have : k = fk d W F n w s := Classical.byContradiction fun z => by
          have := fa_first_no (fun k => alB d W F n w k s) (ln (d w) + 1) k (by unfold fk at h2 z; omega)
          rw [ha] at this; cases this
        rw [← this, if_pos (by omega)]
      · rw [if_neg (show ¬ nI (fb_ct (ofB (bg d W F s (td (d w) k)) W n) m) = (1 : Int32) from fun z => ha (hct.mp ((nI_eq (b := 1) (by omega) (by decide)).mp z)))]
        refine ih (k + 1) ?_ (by omega)
        by_cases z : k = fk d W F n w s
        · exfalso
          apply ha
          have := fa_first_yes (fun k => alB d W F n w k s) (ln (d w) + 1) (by unfold fk at z; omega)
          rw [z]; exact this
        · omega
theorem e3_firstAlone {N m n w s : Nat} {G : Nat → Int64} {d W F : Nat → Nat} (hN : 1000 ≤ N) (hD : Dic m d) (hX : IX m d n W F) (hG : Ris G (fun t => ky d (W t) (F t)) n) (hw : w < m) (h1 : 1 ≤ s) (hs : s ≤ 8) : fX3_firstAlone N (nI n) G (lN (d w)) (nI s) = some (if s ≤ ln (d w) + 1 ∧ fk d W F n w s ≤ ln (d w) then nI (fk d W F n w s) else -1) := by
  have hww := hD.2.2 w hw
  have l7 := hww.2.2.1
  unfold fX3_firstAlone
  rw [e8_length (by omega) hww.1, Option.bind_some, nI_1]
  by_cases h : s ≤ ln (d w) + 1
  · rw [if_pos (nI_le h (by omega)), show fX3_firstAlone_19 N (nI n) G (lN (d w)) (nI s) N (nI (ln (d w))) 0 = _ from e3_firstAlone_l hN hD hX hG hw h1 hs N 0 (Nat.zero_le _) (by omega)]
    by_cases h2 : fk d W F n w s ≤ ln (d w)
    · rw [if_pos h2, if_pos ⟨h, h2⟩]
    · rw [if_neg h2, if_neg (fun z => h2 z.2)]
  · rw [if_neg (nI_ge (by omega) (by omega)), if_neg (fun z => h z.1)]
theorem ky_key0 {M A B a b c e : Nat} (hM : 400 ≤ M) (h : A * M + a * 8 + b < B * M + c * 8 + e) (hne : A ≠ B) (ha : a < 40) (hb : b < 8) (hc : c < 40) (he : e < 8) : A * M + a * 8 + b < B * M := by
  rcases Nat.lt_or_gt_of_ne hne with q | q
  · have h1 : (A + 1) * M ≤ B * M := Nat.mul_le_mul_right M q
    rw [Nat.add_mul, Nat.one_mul] at h1
    omega
  · have h1 : (B + 1) * M ≤ A * M := Nat.mul_le_mul_right M q
    rw [Nat.add_mul, Nat.one_mul] at h1
    omega
theorem ky_key {A B a b c e : Nat} (h : A * 512 + a * 8 + b < B * 512 + c * 8 + e) (hne : A ≠ B) (ha : a < 40) (hb : b < 8) (hc : c < 40) (he : e < 8) : A * 512 + a * 8 + b < B * 512 := ky_key0 (M := 512) (by decide) h hne ha hb hc he
/-- the place of a turn -/
theorem e3_placeOf {N m n t : Nat} {G : Nat → Int64} {d W F : Nat → Nat} (hN : 1000 ≤ N) (hD : Dic m d) (hX : IX m d n W F) (hG : Ris G (fun t => ky d (W t) (F t)) n) (ht : t < n) : fX3_placeOf N (nI n) G (lN (d (W t))) (nI (F t)) = some (nI t) := by
  have h40 := hD.1
  obtain ⟨w1, w2⟩ := IX_w hX ht
  have hww := hD.2.2 _ w1
  unfold fX3_placeOf
  have htr := tr_lt (d (W t)) (F t)
  rw [e8_turned (by omega) hww w2, Option.bind_some, e3_from hN hD hX hG (by omega), Option.bind_some]
  refine congrArg (fun n => some (nI n)) ?_
  refine bl_is (d := fun t => ky d (W t) (F t)) (by omega) (fun i hi => ?_) (fun _ => ?_)
  · have hlt : ky d (W i) (F i) < ky d (W t) (F t) := hX.2.2.1 i t hi ht
    obtain ⟨v1, v2⟩ := IX_w hX (t := i) (by omega)
    have hvv := hD.2.2 _ v1
    have l7 := hvv.2.2.1
    have l7' := hww.2.2.1
    have hne : tr (d (W i)) (F i) ≠ tr (d (W t)) (F t) := fun z => by
      obtain ⟨z1, z2⟩ := tr_inj hvv hww v2 w2 z
      have hwi : W i = W t := by
        rcases Nat.lt_trichotomy (W i) (W t) with h | h | h
        · have := hD.2.1 _ _ h w1; omega
        · exact h
        · have := hD.2.1 _ _ h v1; omega
      rw [hwi, z2] at hlt; omega
    show ky d (W i) (F i) < tr (d (W t)) (F t) * 512
    unfold ky at hlt ⊢
    exact ky_key hlt hne (by omega) (by omega) (by omega) (by omega)
  · show tr (d (W t)) (F t) * 512 ≤ ky d (W t) (F t)
    unfold ky; omega
/-- the reference -/
theorem e12_isAlone_32 {N m n w k s t : Nat} {f tw tf : Nat → Int32} {d W F : Nat → Nat} (rc : Int32 → Option Int32) (hD : Dic m d) (hA : DA f 0 d m) (hX : IX m d n W F) (hT : TA tw tf W F n) (hw : w < m) (hk : k ≤ ln (d w)) (hs : s ≤ 8) (ht : t < n) : ∀ K i, i ≤ s → s + 2 ≤ K + i → (∀ j, j < i → td (d (W t)) (F t) j = td (d w) k j) → fX12_isAlone_32 N (nI n) f tw tf (nI w) (nI k) (nI s) rc K (nI t) 1 (nI i) = (if likeB d W F w k s t then some 0 else rc (nI (t + 1))) := by
  have h40 := hD.1
  have hn := IX_n hD hX
  obtain ⟨w1, w2⟩ := IX_w hX ht
  have hww := hD.2.2 _ w1
  have hww' := hD.2.2 w hw
  have hx := hA.2 _ w1
  have hx' := hA.2 _ hw
  obtain ⟨t1, t2⟩ := hT t ht
  intro K
  induction K with
  | zero => intro i h1 h2; omega
  | succ K ih =>
    intro i h1 h2 h3
    rw [fX12_isAlone_32]
    by_cases hi : s ≤ i
    · rw [if_pos (nI_le hi (by omega))]
      unfold fX12_isAlone_95
      have : likeB d W F w k s t = true := by unfold likeB; rw [decide_eq_true_eq]; exact fun j hj => h3 j (by omega)
      rw [if_neg (by decide), this]; rfl
    · have td1 := td_lt (d (W t)) (F t) i
      have td2 := td_lt (d w) k i
      have sg1 := sg_lt td1
      have sg2 := sg_lt td2
      rw [if_neg (nI_ge (by omega) (by omega)), if_neg (by decide), e12_wordAt0, Option.bind_some, e12_signAt hx' hww' (by omega) hk (by omega), Option.bind_some, gi (by omega) (by decide), nI_clamp (by omega), t1, e12_wordAt0, Option.bind_some, gi2 (by omega) (by decide), t2, e12_signAt hx hww (by omega) w2 (by omega), Option.bind_some, nI_1]
      by_cases he : td (d (W t)) (F t) i = td (d w) k i
      · rw [if_pos (by rw [he])]
        exact ih (i + 1) (by omega) (by omega) (fun j hj => by
          by_cases e : j = i
          · rw [e]; exact he
          · exact h3 j (by omega))
      · rw [if_neg (fun z => he (sg_inj ((nI_eq (by omega) (by omega)).mp z)).symm)]
        have : likeB d W F w k s t = false := by unfold likeB; rw [decide_eq_false_iff_not]; exact fun z => he (z i (by omega))
        obtain ⟨K, rfl⟩ : ∃ K', K = K' + 1 := ⟨K - 1, by omega⟩
        rw [fX12_isAlone_32]
        unfold fX12_isAlone_95
        rw [if_pos rfl, if_pos rfl, ite_self, this, nI_1]
        rfl
theorem e12_isAlone_3 {N m n w k s : Nat} {f tw tf : Nat → Int32} {d W F : Nat → Nat} (hN : 1000 ≤ N) (hD : Dic m d) (hA : DA f 0 d m) (hX : IX m d n W F) (hT : TA tw tf W F n) (hw : w < m) (hk : k ≤ ln (d w)) (hs : s ≤ 8) : ∀ K t, t ≤ n → n + 1 ≤ K + t → (∀ j, j < t → W j ≠ w → likeB d W F w k s j = false) → fX12_isAlone_3 N (nI n) f tw tf (nI w) (nI k) (nI s) K (nI t) = some (if alB d W F n w k s then 1 else 0) := by
  have h40 := hD.1
  have hn := IX_n hD hX
  intro K
  induction K with
  | zero => intro t h1 h2; omega
  | succ K ih =>
    intro t h1 h2 h3
    rw [fX12_isAlone_3]
    by_cases ht : n ≤ t
    · have : alB d W F n w k s = true := by unfold alB; rw [decide_eq_true_eq]; exact fun j hj hne => h3 j (by omega) hne
      rw [if_pos (nI_le ht (by omega)), this]; rfl
    · obtain ⟨t1, t2⟩ := hT t (by omega)
      have w1 := (IX_w hX (t := t) (by omega)).1
      rw [if_neg (nI_ge (by omega) (by omega)), gi (by omega) (by decide), nI_clamp (by omega), t1, nI_1]
      by_cases hwt : W t = w
      · rw [if_pos (by rw [hwt])]
        exact ih (t + 1) (by omega) (by omega) (fun j hj hne => by
          by_cases e : j = t
          · rw [e] at hne; exact absurd hwt hne
          · exact h3 j (by omega) hne)
      · rw [if_neg (fun z => hwt ((nI_eq (by omega) (by omega)).mp z)), show fX12_isAlone_32 N (nI n) f tw tf (nI w) (nI k) (nI s) (fX12_isAlone_3 N (nI n) f tw tf (nI w) (nI k) (nI s) K) N (nI t) 1 0 = _ from e12_isAlone_32 (fX12_isAlone_3 N (nI n) f tw tf (nI w) (nI k) (nI s) K) hD hA hX hT hw hk hs (by omega) N 0 (by omega) (by omega) (fun j hj => absurd hj (Nat.not_lt_zero j))]
        cases hl : likeB d W F w k s t with
        | true =>
          have : alB d W F n w k s = false := by
            unfold alB; rw [decide_eq_false_iff_not]
            intro z
            have := z t (by omega) hwt
            rw [hl] at this; cases this
          rw [this]; rfl
        | false =>
          exact ih (t + 1) (by omega) (by omega) (fun j hj hne => by
            by_cases e : j = t
            · rw [e]; exact hl
            · exact h3 j (by omega) hne)
theorem e12_turnOf {N m n t0 : Nat} {tw tf : Nat → Int32} {d W F : Nat → Nat} (hN : 1000 ≤ N) (hD : Dic m d) (hX : IX m d n W F) (hT : TA tw tf W F n) (ht : t0 < n) : fX12_turnOf N tw tf (nI (W t0)) (nI (F t0)) = some (nI t0) := by
  have h40 := hD.1
  have hn := IX_n hD hX
  have l : ∀ K t, t ≤ t0 → t0 + 1 ≤ K + t → fX12_turnOf_2 N tw tf (nI (W t0)) (nI (F t0)) K (nI t) = some (nI t0) := by
    intro K
    induction K with
    | zero => intro t h1 h2; omega
    | succ K ih =>
      intro t h1 h2
      obtain ⟨t1, t2⟩ := hT t (by omega)
      obtain ⟨v1, v2⟩ := IX_w hX (t := t) (by omega)
      obtain ⟨w1, w2⟩ := IX_w hX ht
      have l7 := (hD.2.2 _ v1).2.2.1
      have l7' := (hD.2.2 _ w1).2.2.1
      rw [fX12_turnOf_2, gi (by omega) (by decide), gi (by omega) (by decide), nI_clamp (by omega), t1, t2, nI_1]
      by_cases e : t = t0
      · rw [e, if_pos rfl, if_pos rfl]
      · have hlt : ky d (W t) (F t) < ky d (W t0) (F t0) := hX.2.2.1 t t0 (by omega) ht
        have ih' := ih (t + 1) (by omega) (by omega)
        by_cases hw : W t = W t0
        · rw [if_pos (by rw [hw]), if_neg (fun z => by
            have hf : F t = F t0 := (nI_eq (by omega) (by omega)).mp z
            rw [hw, hf] at hlt; omega)]
          exact ih'
        · rw [if_neg (fun z => hw ((nI_eq (by omega) (by omega)).mp z))]
          exact ih'
  exact l N 0 (Nat.zero_le _) (by omega)
theorem e12_alone_57 {N m n w s t0 : Nat} {z : Int32} {f tw tf : Nat → Int32} {d W F : Nat → Nat} (rc : Int32 → Int32 → Int32 → (Nat → Int32) → (Nat → Int32) → Option (Int32 × Int32 × (Nat → Int32) × (Nat → Int32))) (hN : 1000 ≤ N) (hD : Dic m d) (hA : DA f 0 d m) (hX : IX m d n W F) (hT : TA tw tf W F n) (hw : w < m) (hs : s ≤ 8) (ht0 : fk d W F n w s ≤ ln (d w) → t0 < n ∧ W t0 = w ∧ F t0 = fk d W F n w s) : ∀ K k, k ≤ fk d W F n w s → ln (d w) + 2 ≤ K + k → fX12_alone_57 N f (nI w) z rc K (nI (ln (d w))) (nI s) (nI k) (nI n) tw tf = (if fk d W F n w s ≤ ln (d w) then some (if z = 0 then nI s else if z = 1 then nI (fk d W F n w s) else nI t0, nI n, tw, tf) else rc (nI (ln (d w))) (nI (s + 1)) (nI n) tw tf) := by
  have h40 := hD.1
  have hww := hD.2.2 w hw
  have l7 := hww.2.2.1
  have hfl : fk d W F n w s ≤ ln (d w) + 1 := fa_first_le _ _
  intro K
  induction K with
  | zero => intro k h2 h3; omega
  | succ K ih =>
    intro k h2 h3
    rw [fX12_alone_57]
    by_cases hk : ln (d w) < k
    · rw [if_pos (nI_lt hk (by omega)), if_neg (by omega), nI_1]
    · have hia : fX12_isAlone N (nI n) f tw tf (nI w) (nI k) (nI s) = some (if alB d W F n w k s then 1 else 0) := by
        have hn := IX_n hD hX
        exact e12_isAlone_3 hN hD hA hX hT hw (by omega) hs N 0 (Nat.zero_le _) (by omega) (fun j hj => absurd hj (Nat.not_lt_zero j))
      rw [if_neg (nI_nlt (by omega) (by omega)), hia, Option.bind_some, nI_1]
      cases ha : alB d W F n w k s with
      | true =>
        have : k = fk d W F n w s := Classical.byContradiction fun z => by
          have := fa_first_no (fun k => alB d W F n w k s) (ln (d w) + 1) k (by unfold fk at h2 z; omega)
          rw [ha] at this; cases this
        obtain ⟨u1, u2, u3⟩ := ht0 (by omega)
        have hto := e12_turnOf hN hD hX hT u1
        rw [u2, u3, ← this] at hto
        rw [if_neg (by decide), hto, Option.bind_some, ← this, if_pos (show k ≤ ln (d w) by omega)]
        by_cases z0 : z = 0
        · rw [if_pos z0, if_pos z0]
        · rw [if_neg z0, if_neg z0]
          by_cases z1 : z = 1
          · rw [if_pos z1, if_pos z1]
          · rw [if_neg z1, if_neg z1]
      | false =>
        rw [if_pos (ib0.mpr rfl)]
        refine ih (k + 1) ?_ (by omega)
        by_cases e : k = fk d W F n w s
        · exfalso
          have := fa_first_yes (fun k => alB d W F n w k s) (ln (d w) + 1) (by unfold fk at e; omega)
          change alB d W F n w (fk d W F n w s) s = true at this
          rw [← e, ha] at this; cases this
        · omega
/-- promise 18 -/
theorem op_alone {N m n : Nat} {f tw tf : Nat → Int32} {v : Int32} {g G : Nat → Int64} {d W F : Nat → Nat} (x z : Int32) (hN : 1000 ≤ N) (hD : Dic m d) (hR : Ris g d m) (hA : DA f 0 d m) (hX : IX m d n W F) (hG : Ris G (fun t => ky d (W t) (F t)) n) : ∃ r v' tw' tf', fX11_alone N (nI m) g (nI n) G x z = some r ∧ fX12_alone N v f tw tf x z = some (r, v', tw', tf') := by
  have h40 := hD.1
  have hn := IX_n hD hX
  unfold fX11_alone fX12_alone
  rw [g0 (by decide), sb_cl0, hA.1]
  rcases isIn_m1 (x := x) (m := m) (by omega) with ⟨h1, h2⟩ | ⟨w, hw, rfl, h1⟩
  · rw [h1, Option.bind_some, if_pos rfl, hasN_out h2, Option.bind_some, if_pos rfl]
    exact ⟨_, _, _, _, rfl, rfl⟩
  · rw [h1, Option.bind_some, if_neg (show ¬ (1 : Int32) = 0 by decide), e7_hasNumber (by omega) (by omega), if_pos hw, Option.bind_some, if_neg (show ¬ (1 : Int32) = 0 by decide)]
    by_cases hz : z < 0
    · rw [if_pos hz, e12_isIn_neg hz, Option.bind_some, if_pos rfl]
      exact ⟨_, _, _, _, rfl, rfl⟩
    · obtain ⟨k, hk, rfl⟩ := nI_of hz
      rw [if_neg hz, show fX12_isIn (nI k) 0 2 = some (if 0 ≤ k ∧ k ≤ 2 then 1 else 0) from e12_isIn (lo := 0) (hi := 2) hk (by decide) (by decide), Option.bind_some]
      by_cases hk2 : k ≤ 2
      · rw [if_pos (show nI k ≤ (2 : Int32) from nI_le (b := 2) hk2 (by decide)), if_pos (show 0 ≤ k ∧ k ≤ 2 from ⟨Nat.zero_le _, hk2⟩), if_neg (show ¬ (1 : Int32) = 0 by decide), e7_at hR (by omega) (by omega) (by omega), if_pos hw, Option.bind_some]
        obtain ⟨tw', tf', a1, a2⟩ := e12_laysTurns_as (tw := tw) (tf := tf) (v := v) (b := 0) hN hD hA (by omega) hX
        have hww := hD.2.2 w hw
        have l7 := hww.2.2.1
        rw [show fX12_laysTurns N v f tw tf 0 = some (nI n, tw', tf') from a1, Option.bind_some, e12_wordAt0, Option.bind_some, gi (by omega) (by decide), nI_clamp (by omega), (hA.2 w hw).1]
        have tail : ∀ K s, ln (d w) + 2 ≤ s → s ≤ 9 → 10 ≤ K + s → fX11_alone_40 N (nI m) g (nI n) G (nI w) (nI k) K (lN (d w)) (nI s) = some (-2) := by
          intro K
          induction K with
          | zero => intro s h1 h2 h3; omega
          | succ K ih =>
            intro s h1 h2 h3
            rw [fX11_alone_40]
            by_cases h8 : 8 < s
            · rw [if_pos (show (8 : Int32) < nI s from nI_lt (a := 8) h8 (by omega))]
            · rw [if_neg (show ¬ (8 : Int32) < nI s from nI_nlt (a := 8) (by omega) (by omega)), e3_firstAlone hN hD hX hG hw (by omega) (by omega), if_neg (fun q => by omega), Option.bind_some, if_pos rfl, nI_1]
              exact ih (s + 1) (by omega) (by omega) (by omega)
        have main : ∀ K s, 1 ≤ s → s ≤ ln (d w) + 2 → 10 ≤ K + s → ∃ r, fX11_alone_40 N (nI m) g (nI n) G (nI w) (nI k) K (lN (d w)) (nI s) = some r ∧ fX12_alone_46 N f (nI w) (nI k) K (nI (ln (d w))) (nI s) (nI n) tw' tf' = some (r, nI n, tw', tf') := by
          intro K
          induction K with
          | zero => intro s h1 h2 h3; omega
          | succ K ih =>
            intro s h1 h2 h3
            by_cases hs : s = ln (d w) + 2
            · rw [tail (K + 1) s (by omega) (by omega) (by omega), fX12_alone_46, nI_1, if_pos (nI_lt (by omega) (by omega))]
              exact ⟨_, rfl, rfl⟩
            · rw [fX11_alone_40, fX12_alone_46, show nI (ln (d w)) + 1 = nI (ln (d w) + 1) from nI_add _ 1, if_neg (show ¬ nI (ln (d w) + 1) < nI s from nI_nlt (by omega) (by omega)), if_neg (show ¬ (8 : Int32) < nI s from nI_nlt (a := 8) (by omega) (by omega)), e3_firstAlone hN hD hX hG hw h1 (by omega), Option.bind_some]
              by_cases hf : fk d W F n w s ≤ ln (d w)
              · obtain ⟨t0, u1, u2, u3⟩ := IX_at hX hw hf
                have hpl := e3_placeOf hN hD hX hG u1
                rw [u2, u3] at hpl
                rw [show fX12_alone_57 N f (nI w) (nI k) (fX12_alone_46 N f (nI w) (nI k) K) N (nI (ln (d w))) (nI s) 0 (nI n) tw' tf' = _ from e12_alone_57 (t0 := t0) (fX12_alone_46 N f (nI w) (nI k) K) hN hD hA hX a2 hw (by omega) (fun _ => ⟨u1, u2, u3⟩) N 0 (Nat.zero_le _) (by omega), if_pos (show s ≤ ln (d w) + 1 ∧ fk d W F n w s ≤ ln (d w) from ⟨by omega, hf⟩), if_pos hf, if_neg (nI_m1 (by omega)), hpl, Option.bind_some]
                by_cases z0 : nI k = 0
                · rw [if_pos z0, if_pos z0]; exact ⟨_, rfl, rfl⟩
                · rw [if_neg z0, if_neg z0]
                  by_cases z1 : nI k = 1
                  · rw [if_pos z1, if_pos z1]; exact ⟨_, rfl, rfl⟩
                  · rw [if_neg z1, if_neg z1]; exact ⟨_, rfl, rfl⟩
              · rw [show fX12_alone_57 N f (nI w) (nI k) (fX12_alone_46 N f (nI w) (nI k) K) N (nI (ln (d w))) (nI s) 0 (nI n) tw' tf' = _ from e12_alone_57 (t0 := 0) (fX12_alone_46 N f (nI w) (nI k) K) hN hD hA hX a2 hw (by omega) (fun q => absurd q hf) N 0 (Nat.zero_le _) (by omega), if_neg (show ¬ (s ≤ ln (d w) + 1 ∧ fk d W F n w s ≤ ln (d w)) from fun q => hf q.2), if_neg hf, if_pos rfl, nI_1]
                exact ih (s + 1) (by omega) (by omega) (by omega)
        obtain ⟨r, r1, r2⟩ := main N 1 (Nat.le_refl _) (by omega) (by omega)
        exact ⟨r, _, _, _, r1, r2⟩
      · rw [if_neg (show ¬ nI k ≤ (2 : Int32) from nI_ge (a := 2) (by omega) hk), if_neg (show ¬ (0 ≤ k ∧ k ≤ 2) from fun q => hk2 q.2), if_pos rfl]
        exact ⟨_, _, _, _, rfl, rfl⟩
