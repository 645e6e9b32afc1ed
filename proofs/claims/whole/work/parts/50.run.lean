/-- promise 15 -/
theorem e12_run_113 {N m n P r : Nat} {k v1 v2 : Int32} {f tw tf ps pf rf rl rp : Nat → Int32} {q d W F : Nat → Nat} (hN : 1000 ≤ N) (hD : Dic m d) (hA : DA f 0 d m) (hX : IX m d n W F) (hT : TA tw tf W F n) (hq : PT q P) (hM : CutM q P ps rf rl rp) (hr : r < KR q P) : ∀ K w, w ≤ m → m + 1 ≤ K + w → fX12_run_113 N f (nI r) k K (nI (fb_ct (ofB (bgK q P d W F r) W n) w)) (nI w) (nI n) v1 v2 (nI (KR q P)) tw tf ps pf rf rl rp = some (nI (fb_ct (ofB (bgK q P d W F r) W n) m), nI n, v1, v2, nI (KR q P), tw, tf, ps, pf, rf, rl, rp) := by
  have h40 := hD.1
  intro K
  induction K with
  | zero => intro w h2 h3; omega
  | succ K ih =>
    intro w h2 h3
    rw [fX12_run_113, g0 (by decide), sb_cl0, hA.1]
    by_cases hw : m ≤ w
    · rw [if_pos (nI_le hw (by omega)), show w = m by omega]
    · rw [if_neg (nI_ge (by omega) (by omega)), k_isOf hN hD hA hX hT hq hM hr (by omega), Option.bind_some, nI_1, nI_1, show nI (fb_ct (ofB (bgK q P d W F r) W n) w) + 0 = nI (fb_ct (ofB (bgK q P d W F r) W n) w) from nI_add _ 0]
      have ih' := ih (w + 1) (by omega) (by omega)
      rw [fb_ct_succ] at ih'
      cases hb : ofB (bgK q P d W F r) W n w with
      | false => rw [hb] at ih'; rw [if_pos (ib0.mpr rfl)]; exact ih'
      | true => rw [hb] at ih'; rw [if_neg (by decide)]; exact ih'
theorem e12_run_73 {N m n P r t0 : Nat} {x k v1 v2 : Int32} {f tw tf ps pf rf rl rp : Nat → Int32} {q d W F : Nat → Nat} (hN : 1000 ≤ N) (hD : Dic m d) (hA : DA f 0 d m) (hX : IX m d n W F) (hT : TA tw tf W F n) (hq : PT q P) (hM : CutM q P ps rf rl rp) (hr : r < KR q P) (hno : ∀ t, t < t0 → bgK q P d W F r t = false) (h0n : t0 ≤ n) (hx : (t0 = n ∧ x = -1) ∨ (t0 < n ∧ x = nI t0 ∧ bgK q P d W F r t0 = true)) : ∀ K t, t ≤ t0 → n + 1 ≤ K + t → fX12_run_73 N f (nI r) k K (nI t) (nI n) v1 v2 (nI (KR q P)) tw tf ps pf rf rl rp = some (x, nI n, v1, v2, nI (KR q P), tw, tf, ps, pf, rf, rl, rp) := by
  have hn := IX_n hD hX
  intro K
  induction K with
  | zero => intro t h2 h3; omega
  | succ K ih =>
    intro t h2 h3
    rw [fX12_run_73]
    by_cases ht : n ≤ t
    · rw [if_pos (nI_le ht (by omega))]
      rcases hx with ⟨-, rfl⟩ | ⟨h, -⟩
      · rfl
      · omega
    · rw [if_neg (nI_ge (by omega) (by omega)), k_begins hN hD hA hX hT hq hM hr (by omega), Option.bind_some, nI_1]
      by_cases htt : t < t0
      · rw [hno t htt, if_pos (ib0.mpr rfl)]
        exact ih (t + 1) (by omega) (by omega)
      · rcases hx with ⟨h, rfl⟩ | ⟨h, rfl, hb⟩
        · omega
        · rw [show t = t0 by omega, hb, if_neg (by decide)]
theorem first_in {p : Nat → Bool} {n lo hi : Nat} (h2 : hi ≤ n) (h : ∀ t, t < n → ((lo ≤ t ∧ t < hi) ↔ p t = true)) (hlt : lo < hi) : (∀ t, t < lo → p t = false) ∧ p lo = true := by
  refine ⟨fun t ht => Bool.eq_false_iff.mpr (fun q => by have := (h t (by omega)).mpr q; omega), (h lo (by omega)).mp ⟨Nat.le_refl _, hlt⟩⟩
theorem first_of {p : Nat → Bool} {n lo hi : Nat} (hct : fb_ct p n = hi - lo) (h : ∀ t, t < n → ((lo ≤ t ∧ t < hi) ↔ p t = true)) (h2 : hi ≤ n) (hz : ¬ fb_ct p n = 0) : lo < n ∧ (∀ t, t < lo → p t = false) ∧ p lo = true := by
  have := first_in h2 h (by omega)
  exact ⟨by omega, this.1, this.2⟩
theorem op_run {N m n P : Nat} {v0 v1 v2 v3 : Int32} {vr vp : Int32} {f tw tf ps pf rf rl rp gs gst gl gp : Nat → Int32} {gh G : Nat → Int64} {q d W F : Nat → Nat} (x k : Int32) (hN : 1000 ≤ N) (hD : Dic m d) (hA : DA f 0 d m) (hX : IX m d n W F) (hG : Ris G (fun t => ky d (W t) (F t)) n) (hq : PT q P) (hP : PA f 430 q P) (h0 : pf 0 = 0) (hC : CutC q P vr vp gs gst gl gp gh) : ∃ r v0' v1' v2' v3' tw' tf' ps' pf' rf' rl' rp', fX11_run N vr gs gst gl gp gh (nI n) G x k = some r ∧ fX12_run N v0 v1 v2 v3 f tw tf ps pf rf rl rp x k = some (r, v0', v1', v2', v3', tw', tf', ps', pf', rf', rl', rp') ∧ pf' 0 = 0 := by
  have h40 := hD.1
  have hn := IX_n hD hX
  obtain ⟨k1, k13, k3⟩ := K_ok hq
  obtain ⟨v2', tw', tf', ps', pf', rf', rl', rp', a1, a2, a3, a4⟩ := op_all (v0 := v0) (v1 := v1) (v2 := v2) (v3 := v3) (tw := tw) (tf := tf) (ps := ps) (rf := rf) (rl := rl) (rp := rp) hN hD hA hX hq hP h0
  unfold fX11_run fX12_run
  rw [a1, Option.bind_some]
  dsimp only
  rcases isIn_m1 (x := x) (m := KR q P) (by omega) with ⟨h1, h2⟩ | ⟨r, hr, rfl, h1⟩
  · rw [h1, Option.bind_some, if_pos rfl, hC.1, e1_hasRun_out h2, Option.bind_some, if_pos rfl]
    exact ⟨_, _, _, _, _, _, _, _, _, _, _, _, rfl, rfl, a2⟩
  · obtain ⟨⟨s1, s2⟩, s3⟩ := k3 r hr
    have hc : ∀ i, i < Ks q P r → Kc q P r i < 32 := fun i hi => (s3 i hi).2.1
    have hhas : fX1_hasRun vr (nI r) = some 1 := by rw [hC.1]; exact e1_hasRun (by omega) hr
    obtain ⟨⟨m1, m2, m3, m4⟩, m5⟩ := a4 r hr
    rw [h1, Option.bind_some, if_neg (show ¬ (1 : Int32) = 0 by decide), hhas, Option.bind_some, if_neg (show ¬ (1 : Int32) = 0 by decide)]
    have e1 : nI (Ks q P r) - 1 = nI (Ks q P r - 1) := pk_sub (b := 1) s1
    by_cases hk : k < 0
    · have hk1 : ¬ (0 : Int32) ≤ k := fun z => by rw [fa_lt] at hk; rw [fa_le] at z; omega
      have hk2 : k.toInt < 0 ∨ 4 < k.toInt := Or.inl (by rw [fa_lt] at hk; exact hk)
      rw [if_neg hk1, if_pos hk2, gi (by omega) (by decide), nI_clamp (by omega), m1, e1, show fX12_isIn (k - 5) 0 (nI (Ks q P r - 1)) = some 0 from isIn_neg_sub (c := 5) hk (by omega) (by omega), Option.bind_some, if_pos rfl]
      exact ⟨_, _, _, _, _, _, _, _, _, _, _, _, rfl, rfl, a2⟩
    · obtain ⟨v, hv, rfl⟩ := nI_of hk
      rw [if_pos (nI_pos' hv)]
      by_cases hv5 : 5 ≤ v
      · have hk2 : (nI v).toInt < 0 ∨ 4 < (nI v).toInt := Or.inr (by rw [nI_toInt hv]; omega)
        have e2 : nI v - 5 = nI (v - 5) := pk_sub (b := 5) hv5
        rw [if_pos hk2, if_pos hk2, e2, gi (by omega) (by decide), nI_clamp (by omega), m1, e1]
        unfold fX1_signOf
        rw [if_neg (nI_pos (by omega)), e1_lengthOf hq hC hr, Option.bind_some, show fX12_isIn (nI (v - 5)) 0 (nI (Ks q P r - 1)) = some (if 0 ≤ v - 5 ∧ v - 5 ≤ Ks q P r - 1 then 1 else 0) from e12_isIn (lo := 0) (by omega) (by omega) (by omega), Option.bind_some]
        by_cases hin : v - 5 < Ks q P r
        · obtain ⟨a, ha⟩ := hC.2.2
          obtain ⟨b1, b2, b3, b4, b5, b6⟩ := ha r hr
          have e3 : nI (Ko q P r) + nI v - 5 = nI (Ko q P r + (v - 5)) := by
            rw [nI_add]
            exact (pk_sub (b := 5) (by omega)).trans (by congr 1; omega)
          rw [if_pos (nI_lt hin (by omega)), if_pos (show 0 ≤ v - 5 ∧ v - 5 ≤ Ks q P r - 1 from ⟨Nat.zero_le _, by omega⟩), if_neg (show ¬ (1 : Int32) = 0 by decide), gi (by omega) (by decide), gi2 (by omega) (by decide)]
          simp only [m2, e3]
          rw [nI_clamp (by omega), b1, nI_add, gi (by omega) (by decide), gi (by omega) (by decide), nI_clamp (by omega), nI_clamp (by omega), b6 _ hin, m4 _ hin, Option.bind_some]
          exact ⟨_, _, _, _, _, _, _, _, _, _, _, _, rfl, rfl, a2⟩
        · rw [if_neg (nI_nlt (by omega) (by omega)), if_neg (show ¬ (0 ≤ v - 5 ∧ v - 5 ≤ Ks q P r - 1) from fun z => by omega), if_pos rfl, Option.bind_some]
          exact ⟨_, _, _, _, _, _, _, _, _, _, _, _, rfl, rfl, a2⟩
      · have hk2 : ¬ ((nI v).toInt < 0 ∨ 4 < (nI v).toInt) := by rw [nI_toInt hv]; omega
        rw [if_neg hk2, if_neg hk2, e1_lengthOf hq hC hr, e1_pieceOf hq hC hr, e11_rangeSize hN hD hX hG hq hC hr, e1_headOf hq hC hr, e11_wordsOfRun hN hD hX hG hq hC hr, k_rangeOf hN hD hA hX a3 hq a4 hr, gi (by omega) (by decide), gi (by omega) (by decide), nI_clamp (by omega), m1, m5]
        simp only [Option.bind_some]
        rcases (show v = 0 ∨ v = 1 ∨ v = 2 ∨ v = 3 ∨ v = 4 by omega) with rfl | rfl | rfl | rfl | rfl
        · rw [if_pos (show nI 0 = 0 from rfl), if_pos (show nI 0 = 0 from rfl)]
          exact ⟨_, _, _, _, _, _, _, _, _, _, _, _, rfl, rfl, a2⟩
        · rw [if_neg (show ¬ nI 1 = 0 by decide), if_neg (show ¬ nI 1 = 0 by decide), if_pos (show nI 1 = 1 from rfl), if_pos (show nI 1 = 1 from rfl)]
          exact ⟨_, _, _, _, _, _, _, _, _, _, _, _, rfl, rfl, a2⟩
        · rw [if_neg (show ¬ nI 2 = 0 by decide), if_neg (show ¬ nI 2 = 0 by decide), if_neg (show ¬ nI 2 = 1 by decide), if_neg (show ¬ nI 2 = 1 by decide), if_pos (show nI 2 = 2 from rfl), if_pos (show nI 2 = 2 from rfl), e3_from hN hD hX hG (by have := hr_lt hc; omega), Option.bind_some]
          have hct := rg_ct hX hD hc s1
          have hrg := fun t ht => rg hX hD hc s1 (t := t) ht
          have hhi := bl_le (fun t => ky d (W t) (F t)) n (ab (Ks q P r) (Kc q P r) * 512)
          change fb_ct (bgK q P d W F r) n = _ at hct
          have hcn : fb_ct (bgK q P d W F r) n ≤ n := fb_ct_le _ _
          have key := first_of hct hrg hhi
          by_cases hz : fb_ct (bgK q P d W F r) n = 0
          · rw [if_pos (by rw [hz]; rfl), show fX12_run_73 N f (nI r) (nI 2) N 0 (nI n) (nI (Kn q P)) v2' (nI (KR q P)) tw' tf' ps' pf' rf' rl' rp' = _ from e12_run_73 (t0 := n) (x := -1) hN hD hA hX a3 hq a4 hr (fun t ht => fb_ct_zero.mp hz t ht) (Nat.le_refl _) (Or.inl ⟨rfl, rfl⟩) N 0 (by omega) (by omega)]
            exact ⟨_, _, _, _, _, _, _, _, _, _, _, _, rfl, rfl, a2⟩
          · obtain ⟨g0, g1, g2⟩ := key hz
            rw [if_neg (fun z => hz ((n0 (by omega)).mp z)), show fX12_run_73 N f (nI r) (nI 2) N 0 (nI n) (nI (Kn q P)) v2' (nI (KR q P)) tw' tf' ps' pf' rf' rl' rp' = _ from e12_run_73 hN hD hA hX a3 hq a4 hr g1 (Nat.le_of_lt g0) (Or.inr ⟨g0, rfl, g2⟩) N 0 (Nat.zero_le _) (by omega)]
            exact ⟨_, _, _, _, _, _, _, _, _, _, _, _, rfl, rfl, a2⟩
        · rw [if_neg (show ¬ nI 3 = 0 by decide), if_neg (show ¬ nI 3 = 0 by decide), if_neg (show ¬ nI 3 = 1 by decide), if_neg (show ¬ nI 3 = 1 by decide), if_neg (show ¬ nI 3 = 2 by decide), if_neg (show ¬ nI 3 = 2 by decide), if_pos (show nI 3 = 3 from rfl), if_pos (show nI 3 = 3 from rfl)]
          exact ⟨_, _, _, _, _, _, _, _, _, _, _, _, rfl, rfl, a2⟩
        · rw [if_neg (show ¬ nI 4 = 0 by decide), if_neg (show ¬ nI 4 = 0 by decide), if_neg (show ¬ nI 4 = 1 by decide), if_neg (show ¬ nI 4 = 1 by decide), if_neg (show ¬ nI 4 = 2 by decide), if_neg (show ¬ nI 4 = 2 by decide), if_neg (show ¬ nI 4 = 3 by decide), if_neg (show ¬ nI 4 = 3 by decide), if_pos (show nI 4 = 4 from rfl), if_pos (show nI 4 = 4 from rfl), e_bitCount (bs_lt40 h40), bs_count h40, Option.bind_some]
          have e := e12_run_113 (k := nI 4) (v1 := nI (Kn q P)) (v2 := v2') (pf := pf') hN hD hA hX a3 hq a4 hr N 0 (by omega) (by omega)
          exact ⟨_, _, _, _, _, _, _, _, _, _, _, _, rfl, e, a2⟩
