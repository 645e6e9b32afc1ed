/-! ===== turns that stand elsewhere behind a merge ===== -/
theorem ct_sm (p : Nat → Bool) : ∀ n, fb_ct p n = fb_sm (fun i => if p i then 1 else 0) n
  | 0 => rfl
  | n + 1 => by rw [fb_ct_succ, fb_sm_succ, ct_sm p n]
theorem sm_swap (R : Nat → Nat → Bool) (n1 : Nat) : ∀ n2, fb_sm (fun i => fb_ct (R i) n2) n1 = fb_sm (fun j => fb_ct (fun i => R i j) n1) n2
  | 0 => by
    have : fb_sm (fun i => fb_ct (R i) 0) n1 = fb_sm (fun _ => 0) n1 := fb_sm_cong (fun k _ => rfl)
    rw [this, fb_sm_const]; rfl
  | n2 + 1 => by
    have : fb_sm (fun i => fb_ct (R i) (n2 + 1)) n1 = fb_sm (fun i => fb_ct (R i) n2 + (if R i n2 then 1 else 0)) n1 := fb_sm_cong (fun k _ => fb_ct_succ _ _)
    rw [this, fb_sm_add, sm_swap R n1 n2, fb_sm_succ, ct_sm (fun i => R i n2) n1]
theorem ct_uniq {p : Nat → Bool} {n : Nat} (h : ∀ i j, i < n → j < n → p i = true → p j = true → i = j) : fb_ct p n = if (∃ j, j < n ∧ p j = true) then 1 else 0 := by
  by_cases hx : ∃ j, j < n ∧ p j = true
  · rw [if_pos hx]
    obtain ⟨j, hj, hp⟩ := hx
    exact (ct_one hj hp).mpr (fun v hv hne => Bool.eq_false_iff.mpr (fun z => hne (h v j hv hj z hp)))
  · rw [if_neg hx]
    exact fb_ct_zero.mpr (fun k hk => Bool.eq_false_iff.mpr (fun z => hx ⟨k, hk, z⟩))
theorem ct_pair {R : Nat → Nat → Bool} {n1 n2 : Nat} (h1 : ∀ i j j', i < n1 → j < n2 → j' < n2 → R i j = true → R i j' = true → j = j') (h2 : ∀ j i i', j < n2 → i < n1 → i' < n1 → R i j = true → R i' j = true → i = i') : fb_ct (fun i => decide (∃ j, j < n2 ∧ R i j = true)) n1 = fb_ct (fun j => decide (∃ i, i < n1 ∧ R i j = true)) n2 := by
  have a : fb_ct (fun i => decide (∃ j, j < n2 ∧ R i j = true)) n1 = fb_sm (fun i => fb_ct (R i) n2) n1 := by
    rw [ct_sm]
    exact fb_sm_cong (fun i hi => by
      rw [ct_uniq (fun j j' x1 x2 x3 x4 => h1 i j j' hi x1 x2 x3 x4)]
      by_cases q : ∃ j, j < n2 ∧ R i j = true
      · rw [if_pos q, if_pos (decide_eq_true q)]
      · rw [if_neg q, if_neg (by rw [decide_eq_false q]; decide)])
  have b : fb_ct (fun j => decide (∃ i, i < n1 ∧ R i j = true)) n2 = fb_sm (fun j => fb_ct (fun i => R i j) n1) n2 := by
    rw [ct_sm]
    exact fb_sm_cong (fun j hj => by
      rw [ct_uniq (fun i i' x1 x2 x3 x4 => h2 j i i' hj x1 x2 x3 x4)]
      by_cases q : ∃ i, i < n1 ∧ R i j = true
      · rw [if_pos q, if_pos (decide_eq_true q)]
      · rw [if_neg q, if_neg (by rw [decide_eq_false q]; decide)])
  rw [a, b, sm_swap]
def trT (d W F : Nat → Nat) (t : Nat) : Nat := tr (d (W t)) (F t)
theorem key_lt {M A B a : Nat} (hM : 0 < M) (h : A * M + a < B * M) : A < B := by
  refine Classical.byContradiction fun z => ?_
  have := Nat.mul_le_mul_right M (show B ≤ A by omega)
  omega
theorem IX_inc {m n : Nat} {d W F : Nat → Nat} (hD : Dic m d) (hX : IX m d n W F) : Inc (trT d W F) n := fun i t hit ht => by
  have h40 := hD.1
  have hlt : ky d (W i) (F i) < ky d (W t) (F t) := hX.2.2.1 i t hit ht
  obtain ⟨w1, w2⟩ := IX_w hX ht
  obtain ⟨v1, v2⟩ := IX_w hX (t := i) (by omega)
  have hww := hD.2.2 _ w1
  have hvv := hD.2.2 _ v1
  have l7 := hvv.2.2.1
  have l7' := hww.2.2.1
  have hne : tr (d (W i)) (F i) ≠ tr (d (W t)) (F t) := fun z => by
    obtain ⟨z1, z2⟩ := tr_inj hvv hww v2 w2 z
    have hwi : W i = W t := by
      rcases Nat.lt_trichotomy (W i) (W t) with h | h | h
      · have := hD.2.1 _ _ h w1; omega
      · exact h
      · have := hD.2.1 _ _ h v1; omega
    rw [hwi, z2] at hlt; omega
  unfold ky at hlt
  have := ky_key hlt hne (by omega) (by omega) (by omega) (by omega)
  rw [Nat.add_assoc] at this
  exact key_lt (by decide) this
theorem trT_lt (d W F : Nat → Nat) (t : Nat) : trT d W F t < 1099511627776 := tr_lt _ _
/-- the relation: the same turn, at another place -/
def mvR (D1 D2 : Nat → Nat) (i j : Nat) : Bool := decide (D1 i = D2 j ∧ i ≠ j)
theorem mvR_iff {D1 D2 : Nat → Nat} {i j : Nat} : mvR D1 D2 i j = true ↔ (D1 i = D2 j ∧ i ≠ j) := by unfold mvR; rw [decide_eq_true_eq]
theorem Inc.inj {D : Nat → Nat} {n i j : Nat} (h : Inc D n) (hi : i < n) (hj : j < n) (e : D i = D j) : i = j := by
  rcases Nat.lt_trichotomy i j with q | q | q
  · have := h i j q hj; omega
  · exact q
  · have := h j i q hi; omega
theorem mv_ct {D1 D2 : Nat → Nat} {n1 n2 : Nat} (h1 : Inc D1 n1) (h2 : Inc D2 n2) : fb_ct (fun i => decide (∃ j, j < n2 ∧ mvR D1 D2 i j = true)) n1 = fb_ct (fun j => decide (∃ i, i < n1 ∧ mvR D1 D2 i j = true)) n2 :=
  ct_pair (fun i j j' _ x2 x3 x4 x5 => h2.inj x2 x3 ((mvR_iff.mp x4).1.symm.trans (mvR_iff.mp x5).1)) (fun j i i' _ x2 x3 x4 x5 => h1.inj x2 x3 ((mvR_iff.mp x4).1.trans (mvR_iff.mp x5).1.symm))
theorem e3_moved_24 {N m n x : Nat} {v1 : Int32} {G1 G : Nat → Int64} {d W F : Nat → Nat} {a c : Int32} (rc : Int32 → Int32 → Int32 → Option Int32) (hD : Dic m d) (hX : IX m d n W F) (hG : Ris G (fun t => ky d (W t) (F t)) n) (hx : x < 1099511627776) : ∀ K j, j ≤ bl (trT d W F) n x → n + 1 ≤ K + j → fX3_moved_24 N v1 G1 (nI n) G rc K a (nI j) c (lN x) = fX3_moved_49 N v1 G1 (nI n) G rc a (nI (bl (trT d W F) n x)) c (lN x) := by
  have hn := IX_n hD hX
  have hb := bl_le (trT d W F) n x
  intro K
  induction K with
  | zero => intro j h1 h2; omega
  | succ K ih =>
    intro j h1 h2
    rw [fX3_moved_24]
    unfold fX3_size fX7_size
    rw [Option.bind_some, Option.bind_some]
    by_cases hj : n ≤ j
    · rw [if_pos (nI_le hj (by omega)), show j = bl (trT d W F) n x by omega]
    · have htl := trT_lt d W F j
      rw [if_neg (nI_ge (by omega) (by omega)), e3_signsAt hD hX hG (by omega), Option.bind_some, nI_1, show tr (d (W j)) (F j) = trT d W F j from rfl]
      by_cases hlt : x ≤ trT d W F j
      · have e : j = bl (trT d W F) n x := Classical.byContradiction fun z => by
          have := bl_lt (d := trT d W F) (m := n) (x := x) (i := j) (by omega)
          omega
        rw [if_pos ((lg_cmp_ge _ _).mpr ((pk_lLE (by omega) (by omega)).mpr hlt)), ← e]
      · rw [if_neg (fun q => hlt (by rw [lg_cmp_ge, pk_lLE (by omega) (by omega)] at q; exact q))]
        refine ih (j + 1) ?_ (by omega)
        by_cases e : j = bl (trT d W F) n x
        · have := bl_at (d := trT d W F) (m := n) (x := x) (by omega)
          rw [← e] at this; omega
        · omega
theorem e3_moved_7 {N m1 n1 m n : Nat} {G1 G : Nat → Int64} {d1 W1 F1 d W F : Nat → Nat} (hN : 1000 ≤ N) (hD1 : Dic m1 d1) (hX1 : IX m1 d1 n1 W1 F1) (hG1 : Ris G1 (fun t => ky d1 (W1 t) (F1 t)) n1) (hD : Dic m d) (hX : IX m d n W F) (hG : Ris G (fun t => ky d (W t) (F t)) n) : ∀ K i j, i ≤ n1 → n1 + 1 ≤ K + i → (i < n1 → j ≤ bl (trT d W F) n (trT d1 W1 F1 i)) → fX3_moved_7 N (nI n1) G1 (nI n) G K (nI (fb_ct (fun i => decide (∃ j, j < n ∧ mvR (trT d1 W1 F1) (trT d W F) i j = true)) i)) (nI j) (nI i) = some (nI (fb_ct (fun i => decide (∃ j, j < n ∧ mvR (trT d1 W1 F1) (trT d W F) i j = true)) n1)) := by
  have hn1 := IX_n hD1 hX1
  have hn := IX_n hD hX
  have hI1 := IX_inc hD1 hX1
  have hI := IX_inc hD hX
  intro K
  induction K with
  | zero => intro i j h1 h2; omega
  | succ K ih =>
    intro i j h1 h2 h3
    rw [fX3_moved_7]
    unfold fX3_size fX7_size
    rw [Option.bind_some, Option.bind_some]
    by_cases hi : n1 ≤ i
    · rw [if_pos (nI_le hi (by omega)), show i = n1 by omega]
    · have htl := trT_lt d1 W1 F1 i
      rw [if_neg (nI_ge (by omega) (by omega)), e3_signsAt hD1 hX1 hG1 (by omega), Option.bind_some]
      rw [show tr (d1 (W1 i)) (F1 i) = trT d1 W1 F1 i from rfl, e3_moved_24 _ hD hX hG htl N j (h3 (by omega)) (by omega)]
      unfold fX3_moved_49 fX3_size fX7_size
      rw [Option.bind_some, Option.bind_some, nI_1, nI_1]
      have hb := bl_le (trT d W F) n (trT d1 W1 F1 i)
      have hth := bl_there (x := trT d1 W1 F1 i) hI
      have ih' := ih (i + 1) (bl (trT d W F) n (trT d1 W1 F1 i)) (by omega) (by omega) (fun hlt => bl_mono hI (Nat.le_of_lt (hI1 i (i + 1) (by omega) hlt)))
      rw [fb_ct_succ] at ih'
      have hno : (¬ ∃ j, j < n ∧ mvR (trT d1 W1 F1) (trT d W F) i j = true) → fX3_moved_7 N (nI n1) G1 (nI n) G K (nI (fb_ct (fun i => decide (∃ j, j < n ∧ mvR (trT d1 W1 F1) (trT d W F) i j = true)) i)) (nI (bl (trT d W F) n (trT d1 W1 F1 i))) (nI (i + 1)) = some (nI (fb_ct (fun i => decide (∃ j, j < n ∧ mvR (trT d1 W1 F1) (trT d W F) i j = true)) n1)) := fun q => by
        rw [decide_eq_false q] at ih'; exact ih'
      have hyes : (∃ j, j < n ∧ mvR (trT d1 W1 F1) (trT d W F) i j = true) → fX3_moved_7 N (nI n1) G1 (nI n) G K (nI (fb_ct (fun i => decide (∃ j, j < n ∧ mvR (trT d1 W1 F1) (trT d W F) i j = true)) i + 1)) (nI (bl (trT d W F) n (trT d1 W1 F1 i))) (nI (i + 1)) = some (nI (fb_ct (fun i => decide (∃ j, j < n ∧ mvR (trT d1 W1 F1) (trT d W F) i j = true)) n1)) := fun q => by
        rw [decide_eq_true q] at ih'; exact ih'
      by_cases hbn : n ≤ bl (trT d W F) n (trT d1 W1 F1 i)
      · rw [if_pos (nI_le hbn (by omega))]
        refine hno ?_
        rintro ⟨j', j1, j2⟩
        have := hth.mp ⟨j', j1, (mvR_iff.mp j2).1.symm⟩
        omega
      · have htl2 := trT_lt d W F (bl (trT d W F) n (trT d1 W1 F1 i))
        rw [if_neg (nI_ge (by omega) (by omega)), e3_signsAt hD hX hG (by omega), Option.bind_some]
        have hcmp : (lg_cmp (lN (tr (d (W (bl (trT d W F) n (trT d1 W1 F1 i)))) (F (bl (trT d W F) n (trT d1 W1 F1 i))))) (lN (trT d1 W1 F1 i)) = 0) ↔ trT d W F (bl (trT d W F) n (trT d1 W1 F1 i)) = trT d1 W1 F1 i := by
          rw [lg_cmp_eq, pk_lEQ (by unfold trT at htl2; unfold trT; omega) (by omega)]; rfl
        by_cases he : trT d W F (bl (trT d W F) n (trT d1 W1 F1 i)) = trT d1 W1 F1 i
        · rw [if_pos (hcmp.mpr he)]
          by_cases hbi : bl (trT d W F) n (trT d1 W1 F1 i) = i
          · rw [if_pos (by rw [hbi])]
            refine hno ?_
            rintro ⟨j', j1, j2⟩
            obtain ⟨q1, q2⟩ := mvR_iff.mp j2
            have := hI.inj (show bl (trT d W F) n (trT d1 W1 F1 i) < n by omega) j1 (he.trans q1)
            omega
          · rw [if_neg (fun z => hbi ((nI_eq (by omega) (by omega)).mp z))]
            exact hyes ⟨_, by omega, mvR_iff.mpr ⟨he.symm, fun z => hbi z.symm⟩⟩
        · rw [if_neg (fun z => he (hcmp.mp z))]
          refine hno ?_
          rintro ⟨j', j1, j2⟩
          exact he (hth.mp ⟨j', j1, (mvR_iff.mp j2).1.symm⟩).2
theorem e3_moved {N m1 n1 m n : Nat} {G1 G : Nat → Int64} {d1 W1 F1 d W F : Nat → Nat} (hN : 1000 ≤ N) (hD1 : Dic m1 d1) (hX1 : IX m1 d1 n1 W1 F1) (hG1 : Ris G1 (fun t => ky d1 (W1 t) (F1 t)) n1) (hD : Dic m d) (hX : IX m d n W F) (hG : Ris G (fun t => ky d (W t) (F t)) n) : fX3_moved N (nI n1) G1 (nI n) G = some (nI (fb_ct (fun i => decide (∃ j, j < n ∧ mvR (trT d1 W1 F1) (trT d W F) i j = true)) n1)) := by
  have hn1 := IX_n hD1 hX1
  unfold fX3_moved
  exact e3_moved_7 hN hD1 hX1 hG1 hD hX hG N 0 0 (Nat.zero_le _) (by omega) (fun _ => Nat.zero_le _)
/-- the reference: where each turn stood -/
theorem e12_moved_7 {N m1 n1 : Nat} {f tw tf : Nat → Int32} {d1 W1 F1 : Nat → Nat} (hD1 : Dic m1 d1) (hX1 : IX m1 d1 n1 W1 F1) (hT1 : TA tw tf W1 F1 n1) : ∀ K t st, t ≤ n1 → n1 + 1 ≤ K + t → (∀ j, j < t → st (8 * W1 j + F1 j) = nI j) → ∃ st', fX12_moved_7 N f K (nI t) (nI n1) tw tf st = (Option.bind (fX12_laysTurns N (nI n1) f tw tf 443) fun r3 => fX12_moved_54 N f N 0 0 r3.1 r3.2.1 r3.2.2 st') ∧ ∀ j, j < n1 → st' (8 * W1 j + F1 j) = nI j := by
  have h40 := hD1.1
  have hn1 := IX_n hD1 hX1
  intro K
  induction K with
  | zero => intro t st h1 h2; omega
  | succ K ih =>
    intro t st h1 h2 h3
    rw [fX12_moved_7]
    by_cases ht : n1 ≤ t
    · rw [if_pos (nI_le ht (by omega))]
      exact ⟨st, rfl, fun j hj => h3 j (by omega)⟩
    · obtain ⟨t1, t2⟩ := hT1 t (by omega)
      obtain ⟨w1, w2⟩ := IX_w hX1 (t := t) (by omega)
      have l7 := (hD1.2.2 _ w1).2.2.1
      rw [if_neg (nI_ge (by omega) (by omega)), gi (by omega) (by decide), gi (by omega) (by decide), nI_clamp (by omega), t1, t2, show (8 : Int32) * nI (W1 t) = nI (8 * W1 t) from pk_mul 8 _, nI_add, gi (by omega) (by decide), nI_clamp (by omega), nI_1]
      refine ih (t + 1) _ (by omega) (by omega) (fun j hj => ?_)
      by_cases e : j = t
      · rw [e, pk_us]
      · obtain ⟨v1, v2⟩ := IX_w hX1 (t := j) (by omega)
        have l7' := (hD1.2.2 _ v1).2.2.1
        have hlt : ky d1 (W1 j) (F1 j) < ky d1 (W1 t) (F1 t) := hX1.2.2.1 j t (by omega) (by omega)
        rw [pk_un (fun z => by
          have e1 : W1 j = W1 t := by omega
          have e2 : F1 j = F1 t := by omega
          rw [e1, e2] at hlt; omega)]
        exact h3 j (by omega)
theorem e12_moved_54 {N m1 n1 m n : Nat} {f tw tf st : Nat → Int32} {d1 W1 F1 d W F : Nat → Nat} (hN : 1000 ≤ N) (hD1 : Dic m1 d1) (hX1 : IX m1 d1 n1 W1 F1) (hA1 : DA f 0 d1 m1) (hst : ∀ j, j < n1 → st (8 * W1 j + F1 j) = nI j) (hD : Dic m d) (hX : IX m d n W F) (hA : DA f 443 d m) (hT : TA tw tf W F n) : ∀ K j, j ≤ n → n + 1 ≤ K + j → fX12_moved_54 N f K (nI (fb_ct (fun j => decide (∃ i, i < n1 ∧ mvR (trT d1 W1 F1) (trT d W F) i j = true)) j)) (nI j) (nI n) tw tf st = some (nI (fb_ct (fun j => decide (∃ i, i < n1 ∧ mvR (trT d1 W1 F1) (trT d W F) i j = true)) n), nI n, tw, tf, st) := by
  have h40 := hD.1
  have h41 := hD1.1
  have hn := IX_n hD hX
  have hn1 := IX_n hD1 hX1
  intro K
  induction K with
  | zero => intro j h1 h2; omega
  | succ K ih =>
    intro j h1 h2
    rw [fX12_moved_54]
    by_cases hj : n ≤ j
    · rw [if_pos (nI_le hj (by omega)), show j = n by omega]
    · obtain ⟨t1, t2⟩ := hT j (by omega)
      obtain ⟨w1, w2⟩ := IX_w hX (t := j) (by omega)
      have hww := hD.2.2 _ w1
      have l7 := hww.2.2.1
      have hno := e12_numberOf (b := 0) (x := 443 + 1 + 8 * W j) hN hA1 (hA.2 _ w1) hww hD1.2.2 hD1.2.1 (by omega) (by omega) h41
      have hbl := bl_le d1 m1 (d (W j))
      have hth := bl_there (x := d (W j)) hD1.2.1
      rw [if_neg (nI_ge (by omega) (by omega)), gi (by omega) (by decide), nI_clamp (by omega), t1, t2, show fX12_wordAt 443 (nI (W j)) = some (nI (443 + 1 + 8 * W j)) from e12_wordAt 443 (W j), Option.bind_some, show fX12_numberOf N f 0 (nI (443 + 1 + 8 * W j)) = _ from hno, Option.bind_some, nI_1, nI_1, show nI (fb_ct (fun j => decide (∃ i, i < n1 ∧ mvR (trT d1 W1 F1) (trT d W F) i j = true)) j) + 0 = nI (fb_ct (fun j => decide (∃ i, i < n1 ∧ mvR (trT d1 W1 F1) (trT d W F) i j = true)) j) from nI_add _ 0]
      have ih' := ih (j + 1) (by omega) (by omega)
      rw [fb_ct_succ] at ih'
      by_cases hin : bl d1 m1 (d (W j)) < m1 ∧ d1 (bl d1 m1 (d (W j))) = d (W j)
      · obtain ⟨i, hi, hWi, hFi⟩ := IX_at hX1 hin.1 (show F j ≤ ln (d1 (bl d1 m1 (d (W j)))) by rw [hin.2]; exact w2)
        have hsti := hst i hi
        rw [hWi, hFi] at hsti
        have htr : trT d1 W1 F1 i = trT d W F j := by unfold trT; rw [hWi, hFi, hin.2]
        rw [if_pos hin, if_neg (nI_pos (by omega)), gi2 (by omega) (by decide), show (8 : Int32) * nI (bl d1 m1 (d (W j))) = nI (8 * bl d1 m1 (d (W j))) from pk_mul 8 _, nI_add, gi (by omega) (by decide), nI_clamp (by omega), hsti]
        by_cases hij : i = j
        · rw [if_pos (by rw [hij])]
          have q : ¬ ∃ i, i < n1 ∧ mvR (trT d1 W1 F1) (trT d W F) i j = true := by
            rintro ⟨i', x1, x2⟩
            obtain ⟨q1, q2⟩ := mvR_iff.mp x2
            have := (IX_inc hD1 hX1).inj x1 hi (q1.trans htr.symm)
            omega
          rw [decide_eq_false q] at ih'
          exact ih'
        · rw [if_neg (fun z => hij ((nI_eq (by omega) (by omega)).mp z))]
          have q : ∃ i, i < n1 ∧ mvR (trT d1 W1 F1) (trT d W F) i j = true := ⟨i, hi, mvR_iff.mpr ⟨htr, hij⟩⟩
          rw [decide_eq_true q] at ih'
          exact ih'
      · rw [if_neg hin, if_pos (by decide)]
        have q : ¬ ∃ i, i < n1 ∧ mvR (trT d1 W1 F1) (trT d W F) i j = true := by
          rintro ⟨i', x1, x2⟩
          obtain ⟨q1, q2⟩ := mvR_iff.mp x2
          obtain ⟨y1, y2⟩ := IX_w hX1 x1
          obtain ⟨z1, z2⟩ := tr_inj (hD1.2.2 _ y1) hww y2 w2 q1
          exact hin (hth.mp ⟨_, y1, z1⟩)
        rw [decide_eq_false q] at ih'
        exact ih'
theorem e12_moved {N m1 n1 m n : Nat} {v : Int32} {f tw tf st : Nat → Int32} {d1 W1 F1 d W F : Nat → Nat} (hN : 1000 ≤ N) (hD1 : Dic m1 d1) (hX1 : IX m1 d1 n1 W1 F1) (hA1 : DA f 0 d1 m1) (hD : Dic m d) (hX : IX m d n W F) (hA : DA f 443 d m) : ∃ tw' tf' st', fX12_moved N v f tw tf st = some (nI (fb_ct (fun j => decide (∃ i, i < n1 ∧ mvR (trT d1 W1 F1) (trT d W F) i j = true)) n), nI n, tw', tf', st') := by
  have h40 := hD.1
  have h41 := hD1.1
  have hn := IX_n hD hX
  have hn1 := IX_n hD1 hX1
  obtain ⟨tw1, tf1, a1, a2⟩ := e12_laysTurns_as (tw := tw) (tf := tf) (v := v) (b := 0) hN hD1 hA1 (by omega) hX1
  obtain ⟨st1, b1, b2⟩ := e12_moved_7 (N := N) (f := f) hD1 hX1 a2 N 0 st (Nat.zero_le _) (by omega) (fun j hj => absurd hj (Nat.not_lt_zero j))
  obtain ⟨tw2, tf2, c1, c2⟩ := e12_laysTurns_as (tw := tw1) (tf := tf1) (v := nI n1) (b := 443) hN hD hA (by omega) hX
  unfold fX12_moved
  rw [show fX12_laysTurns N v f tw tf 0 = _ from a1, Option.bind_some]
  dsimp only
  rw [show fX12_moved_7 N f N 0 (nI n1) tw1 tf1 st = _ from b1, show fX12_laysTurns N (nI n1) f tw1 tf1 443 = _ from c1, Option.bind_some]
  exact ⟨tw2, tf2, st1, e12_moved_54 hN hD1 hX1 hA1 b2 hD hX hA c2 N 0 (Nat.zero_le _) (by omega)⟩
