/-- the longest run -/
theorem op_longest_l {N P : Nat} {q : Nat → Nat} {vr vp : Int32} {gs gst gl gp ps rf rl rp : Nat → Int32} {gh : Nat → Int64} (hq : PT q P) (hC : CutC q P vr vp gs gst gl gp gh) (hM : CutM q P ps rf rl rp) : ∀ K b x, b < KR q P → x ≤ KR q P → KR q P + 1 ≤ K + x → ∃ r, fX11_longestRun_4 N vr gl K (nI b) (nI x) = some r ∧ fX12_longest_4 N (nI (KR q P)) rl K (nI b) (nI x) = some r := by
  obtain ⟨k1, k13, k3⟩ := K_ok hq
  intro K
  induction K with
  | zero => intro b x h1 h2 h3; omega
  | succ K ih =>
    intro b x h1 h2 h3
    rw [fX11_longestRun_4, fX12_longest_4]
    unfold fX1_runs
    rw [Option.bind_some]
    have e := hC.1
    by_cases hx : KR q P ≤ x
    · rw [e, if_pos (nI_le hx (by omega)), if_pos (nI_le hx (by omega))]; exact ⟨_, rfl, rfl⟩
    · rw [e1_lengthOf hq hC (r := x) (by omega), e1_lengthOf hq hC h1, Option.bind_some, Option.bind_some]
      have e2 : (if vr ≤ nI x then some (nI b) else if nI (Ks q P x) ≤ nI (Ks q P b) then fX11_longestRun_4 N vr gl K (nI b) (nI x + 1) else fX11_longestRun_4 N vr gl K (nI x) (nI x + 1)) = (if nI (Ks q P x) ≤ nI (Ks q P b) then fX11_longestRun_4 N vr gl K (nI b) (nI x + 1) else fX11_longestRun_4 N vr gl K (nI x) (nI x + 1)) := by rw [e, if_neg (nI_ge (by omega) (by omega))]
      rw [e2, if_neg (show ¬ nI (KR q P) ≤ nI x from nI_ge (by omega) (by omega)), gi (by omega) (by decide), gi (by omega) (by decide), nI_clamp (by omega), nI_clamp (by omega), (hM x (by omega)).1.1, (hM b h1).1.1, nI_1]
      by_cases hle : nI (Ks q P x) ≤ nI (Ks q P b)
      · rw [if_pos hle, if_pos hle]; exact ih b (x + 1) h1 (by omega) (by omega)
      · rw [if_neg hle, if_neg hle]; exact ih x (x + 1) (by omega) (by omega) (by omega)
theorem op_longest {N P : Nat} {q : Nat → Nat} {vr vp : Int32} {gs gst gl gp ps rf rl rp : Nat → Int32} {gh : Nat → Int64} (hN : 1000 ≤ N) (hq : PT q P) (hC : CutC q P vr vp gs gst gl gp gh) (hM : CutM q P ps rf rl rp) : ∃ r, fX11_longestRun N vr gl = some r ∧ fX12_longest N (nI (KR q P)) rl = some r := by
  obtain ⟨k1, k13, k3⟩ := K_ok hq
  exact op_longest_l hq hC hM N 0 1 (by omega) k1 (by omega)
/-- the narrowest run -/
theorem op_narrowest_l {N m n P : Nat} {q d W F : Nat → Nat} {vr vp : Int32} {f tw tf gs gst gl gp ps rf rl rp : Nat → Int32} {gh G : Nat → Int64} (hN : 1000 ≤ N) (hD : Dic m d) (hA : DA f 0 d m) (hX : IX m d n W F) (hG : Ris G (fun t => ky d (W t) (F t)) n) (hT : TA tw tf W F n) (hq : PT q P) (hC : CutC q P vr vp gs gst gl gp gh) (hM : CutM q P ps rf rl rp) : ∀ K b x, b < KR q P → x ≤ KR q P → KR q P + 1 ≤ K + x → ∃ r, fX11_narrowestRun_4 N vr gl gh (nI n) G K (nI b) (nI x) = some r ∧ fX12_narrowest_4 N (nI n) (nI (KR q P)) f tw tf ps rf rl K (nI b) (nI x) = some r := by
  obtain ⟨k1, k13, k3⟩ := K_ok hq
  intro K
  induction K with
  | zero => intro b x h1 h2 h3; omega
  | succ K ih =>
    intro b x h1 h2 h3
    rw [fX11_narrowestRun_4, fX12_narrowest_4]
    unfold fX1_runs
    rw [Option.bind_some]
    have e := hC.1
    by_cases hx : KR q P ≤ x
    · rw [e, if_pos (nI_le hx (by omega)), if_pos (nI_le hx (by omega))]; exact ⟨_, rfl, rfl⟩
    · rw [e11_rangeSize hN hD hX hG hq hC (r := x) (by omega), e11_rangeSize hN hD hX hG hq hC h1, Option.bind_some, Option.bind_some, if_neg (show ¬ vr ≤ nI x by rw [e]; exact nI_ge (by omega) (by omega)), if_neg (show ¬ nI (KR q P) ≤ nI x from nI_ge (by omega) (by omega)), k_rangeOf hN hD hA hX hT hq hM (r := x) (by omega), k_rangeOf hN hD hA hX hT hq hM h1, Option.bind_some, Option.bind_some, nI_1]
      by_cases hle : nI (fb_ct (bgK q P d W F b) n) ≤ nI (fb_ct (bgK q P d W F x) n)
      · rw [if_pos hle, if_pos hle]; exact ih b (x + 1) h1 (by omega) (by omega)
      · rw [if_neg hle, if_neg hle]; exact ih x (x + 1) (by omega) (by omega) (by omega)
theorem op_narrowest {N m n P : Nat} {q d W F : Nat → Nat} {vr vp : Int32} {f tw tf gs gst gl gp ps rf rl rp : Nat → Int32} {gh G : Nat → Int64} (hN : 1000 ≤ N) (hD : Dic m d) (hA : DA f 0 d m) (hX : IX m d n W F) (hG : Ris G (fun t => ky d (W t) (F t)) n) (hT : TA tw tf W F n) (hq : PT q P) (hC : CutC q P vr vp gs gst gl gp gh) (hM : CutM q P ps rf rl rp) : ∃ r, fX11_narrowestRun N vr gl gh (nI n) G = some r ∧ fX12_narrowest N (nI n) (nI (KR q P)) f tw tf ps rf rl = some r := by
  obtain ⟨k1, k13, k3⟩ := K_ok hq
  exact op_narrowest_l hN hD hA hX hG hT hq hC hM N 0 1 (by omega) k1 (by omega)
/-- a word has the first runs -/
def shB (q : Nat → Nat) (P : Nat) (d W F : Nat → Nat) (n k w : Nat) : Bool := decide (∀ r, r < k → ofB (bgK q P d W F r) W n w = true)
theorem shB_s {q : Nat → Nat} {P : Nat} {d W F : Nat → Nat} {n k w : Nat} : shB q P d W F n (k + 1) w = (shB q P d W F n k w && ofB (bgK q P d W F k) W n w) := by
  unfold shB
  rw [Bool.eq_iff_iff]
  simp only [Bool.and_eq_true, decide_eq_true_eq]
  constructor
  · intro h; exact ⟨fun r hr => h r (by omega), h k (by omega)⟩
  · rintro ⟨h1, h2⟩ r hr
    by_cases e : r = k
    · rw [e]; exact h2
    · exact h1 r (by omega)
theorem e11_sharedWords_l {N m n P : Nat} {q d W F : Nat → Nat} {vr vp : Int32} {gs gst gl gp : Nat → Int32} {gh G : Nat → Int64} (hN : 1000 ≤ N) (hD : Dic m d) (hX : IX m d n W F) (hG : Ris G (fun t => ky d (W t) (F t)) n) (hq : PT q P) (hC : CutC q P vr vp gs gst gl gp gh) : ∀ K x, x ≤ KR q P → KR q P + 1 ≤ K + x → fX11_sharedWords_8 N vr gl gh (nI n) G K (lN (bs (shB q P d W F n x) m)) (nI x) = some (lN (bs (shB q P d W F n (KR q P)) m)) := by
  obtain ⟨k1, k13, k3⟩ := K_ok hq
  intro K
  induction K with
  | zero => intro x h2 h3; omega
  | succ K ih =>
    intro x h2 h3
    rw [fX11_sharedWords_8]
    unfold fX1_runs
    rw [Option.bind_some]
    have e := hC.1
    by_cases hx : KR q P ≤ x
    · rw [if_pos (show vr ≤ nI x by rw [e]; exact nI_le hx (by omega)), show x = KR q P by omega]
    · rw [if_neg (show ¬ vr ≤ nI x by rw [e]; exact nI_ge (by omega) (by omega)), e11_wordsOfRun hN hD hX hG hq hC (by omega), Option.bind_some, fb_andL, nI_1]
      have : bs (shB q P d W F n x) m &&& bs (ofB (bgK q P d W F x) W n) m = bs (shB q P d W F n (x + 1)) m := by
        apply Nat.eq_of_testBit_eq
        intro w
        rw [Nat.testBit_and, bs_bit, bs_bit, bs_bit, shB_s]
        cases decide (w < m) <;> rfl
      rw [this]
      exact ih (x + 1) (by omega) (by omega)
theorem e11_sharedWords {N m n P : Nat} {q d W F : Nat → Nat} {vr vp : Int32} {gs gst gl gp : Nat → Int32} {gh G : Nat → Int64} (hN : 1000 ≤ N) (hD : Dic m d) (hX : IX m d n W F) (hG : Ris G (fun t => ky d (W t) (F t)) n) (hq : PT q P) (hC : CutC q P vr vp gs gst gl gp gh) : fX11_sharedWords N vr gl gh (nI n) G = some (lN (bs (shB q P d W F n (KR q P)) m)) := by
  obtain ⟨k1, k13, k3⟩ := K_ok hq
  unfold fX11_sharedWords
  rw [show fX11_wordsOfRun N vr gl gh (nI n) G 0 = _ from e11_wordsOfRun hN hD hX hG hq hC k1, Option.bind_some]
  have : ofB (bgK q P d W F 0) W n = shB q P d W F n 1 := by
    funext w
    rw [shB_s]
    have : shB q P d W F n 0 w = true := by
      unfold shB
      rw [decide_eq_true_eq]
      exact fun r hr => absurd hr (Nat.not_lt_zero r)
    rw [this]; rfl
  rw [this]
  exact e11_sharedWords_l hN hD hX hG hq hC N 1 k1 (by omega)
theorem e12_isShared_l {N m n P w : Nat} {f tw tf ps rf rl rp : Nat → Int32} {q d W F : Nat → Nat} (hN : 1000 ≤ N) (hD : Dic m d) (hA : DA f 0 d m) (hX : IX m d n W F) (hT : TA tw tf W F n) (hq : PT q P) (hM : CutM q P ps rf rl rp) (hw : w < 1000) : ∀ K x, x ≤ KR q P → KR q P + 1 ≤ K + x → shB q P d W F n x w = true → fX12_isShared_2 N (nI n) (nI (KR q P)) f tw tf ps rf rl (nI w) K (nI x) = some (if shB q P d W F n (KR q P) w then 1 else 0) := by
  obtain ⟨k1, k13, k3⟩ := K_ok hq
  intro K
  induction K with
  | zero => intro x h2 h3; omega
  | succ K ih =>
    intro x h2 h3 h4
    rw [fX12_isShared_2]
    by_cases hx : KR q P ≤ x
    · rw [if_pos (nI_le hx (by omega)), ← show x = KR q P by omega, h4]; rfl
    · rw [if_neg (nI_ge (by omega) (by omega)), k_isOf hN hD hA hX hT hq hM (by omega) hw, Option.bind_some, nI_1]
      cases hb : ofB (bgK q P d W F x) W n w with
      | true =>
        rw [if_neg (by decide)]
        exact ih (x + 1) (by omega) (by omega) (by rw [shB_s, h4, hb]; rfl)
      | false =>
        rw [if_pos (ib0.mpr rfl)]
        have : shB q P d W F n (KR q P) w = false := by
          unfold shB
          rw [decide_eq_false_iff_not]
          intro z
          have := z x (by omega)
          rw [hb] at this; cases this
        rw [this]; rfl
theorem e12_isShared {N m n P w : Nat} {f tw tf ps rf rl rp : Nat → Int32} {q d W F : Nat → Nat} (hN : 1000 ≤ N) (hD : Dic m d) (hA : DA f 0 d m) (hX : IX m d n W F) (hT : TA tw tf W F n) (hq : PT q P) (hM : CutM q P ps rf rl rp) (hw : w < 1000) : fX12_isShared N (nI n) (nI (KR q P)) f tw tf ps rf rl (nI w) = some (if shB q P d W F n (KR q P) w then 1 else 0) := by
  obtain ⟨k1, k13, k3⟩ := K_ok hq
  unfold fX12_isShared
  exact e12_isShared_l hN hD hA hX hT hq hM hw N 0 (by omega) (by omega) (by unfold shB; rw [decide_eq_true_eq]; exact fun r hr => absurd hr (Nat.not_lt_zero r))
theorem e12_sharedMany_l {N m n P : Nat} {v1 v2 : Int32} {f tw tf ps pf rf rl rp : Nat → Int32} {q d W F : Nat → Nat} (hN : 1000 ≤ N) (hD : Dic m d) (hA : DA f 0 d m) (hX : IX m d n W F) (hT : TA tw tf W F n) (hq : PT q P) (hM : CutM q P ps rf rl rp) : ∀ K w, w ≤ m → m + 1 ≤ K + w → fX12_sharedMany_8 N f K (nI (fb_ct (shB q P d W F n (KR q P)) w)) (nI w) (nI n) v1 v2 (nI (KR q P)) tw tf ps pf rf rl rp = some (nI (fb_ct (shB q P d W F n (KR q P)) m), nI n, v1, v2, nI (KR q P), tw, tf, ps, pf, rf, rl, rp) := by
  have h40 := hD.1
  intro K
  induction K with
  | zero => intro w h2 h3; omega
  | succ K ih =>
    intro w h2 h3
    rw [fX12_sharedMany_8, g0 (by decide), sb_cl0, hA.1]
    by_cases hw : m ≤ w
    · rw [if_pos (nI_le hw (by omega)), show w = m by omega]
    · rw [if_neg (nI_ge (by omega) (by omega)), e12_isShared hN hD hA hX hT hq hM (by omega), Option.bind_some, nI_1, nI_1, show nI (fb_ct (shB q P d W F n (KR q P)) w) + 0 = nI (fb_ct (shB q P d W F n (KR q P)) w) from nI_add _ 0]
      have ih' := ih (w + 1) (by omega) (by omega)
      rw [fb_ct_succ] at ih'
      cases hb : shB q P d W F n (KR q P) w with
      | false => rw [hb] at ih'; rw [if_pos (ib0.mpr rfl)]; exact ih'
      | true => rw [hb] at ih'; rw [if_neg (by decide)]; exact ih'
/-- promise 11, 10 -/
theorem op_sharedMany {N m n P : Nat} {v0 v1 v2 v3 : Int32} {vr vp : Int32} {f tw tf ps pf rf rl rp gs gst gl gp : Nat → Int32} {gh G : Nat → Int64} {q d W F : Nat → Nat} (hN : 1000 ≤ N) (hD : Dic m d) (hA : DA f 0 d m) (hX : IX m d n W F) (hG : Ris G (fun t => ky d (W t) (F t)) n) (hq : PT q P) (hP : PA f 430 q P) (h0 : pf 0 = 0) (hC : CutC q P vr vp gs gst gl gp gh) : ∃ r v0' v1' v2' v3' tw' tf' ps' pf' rf' rl' rp', (Option.bind (fX11_sharedWords N vr gl gh (nI n) G) fun r => fJ13_bitCount_95d88 r) = some r ∧ fX12_sharedMany N v0 v1 v2 v3 f tw tf ps pf rf rl rp = some (r, v0', v1', v2', v3', tw', tf', ps', pf', rf', rl', rp') ∧ pf' 0 = 0 := by
  have h40 := hD.1
  obtain ⟨v2', tw', tf', ps', pf', rf', rl', rp', a1, a2, a3, a4⟩ := op_all (v0 := v0) (v1 := v1) (v2 := v2) (v3 := v3) (tw := tw) (tf := tf) (ps := ps) (rf := rf) (rl := rl) (rp := rp) hN hD hA hX hq hP h0
  unfold fX12_sharedMany
  have e := e12_sharedMany_l (v1 := nI (Kn q P)) (v2 := v2') (pf := pf') hN hD hA hX a3 hq a4 N 0 (by omega) (by omega)
  rw [e11_sharedWords hN hD hX hG hq hC, Option.bind_some, e_bitCount (bs_lt40 h40), bs_count h40, a1, Option.bind_some]
  exact ⟨_, _, _, _, _, _, _, _, _, _, _, _, rfl, e, a2⟩
theorem e12_shared_l {N m n P : Nat} {k v1 v2 : Int32} {f tw tf ps pf rf rl rp : Nat → Int32} {q d W F : Nat → Nat} (hN : 1000 ≤ N) (hD : Dic m d) (hA : DA f 0 d m) (hX : IX m d n W F) (hT : TA tw tf W F n) (hq : PT q P) (hM : CutM q P ps rf rl rp) : ∀ K w c, w ≤ m → m + 1 ≤ K + w → fX12_shared_8 N f k K (nI c) (nI w) (nI n) v1 v2 (nI (KR q P)) tw tf ps pf rf rl rp = some (srch (shB q P d W F n (KR q P)) k (m - w) w c, nI n, v1, v2, nI (KR q P), tw, tf, ps, pf, rf, rl, rp) := by
  have h40 := hD.1
  intro K
  induction K with
  | zero => intro w c h2 h3; omega
  | succ K ih =>
    intro w c h2 h3
    rw [fX12_shared_8, g0 (by decide), sb_cl0, hA.1]
    by_cases hw : m ≤ w
    · rw [if_pos (nI_le hw (by omega)), show m - w = 0 by omega, srch]
    · rw [if_neg (nI_ge (by omega) (by omega)), e12_isShared hN hD hA hX hT hq hM (by omega), Option.bind_some, nI_1, nI_1, show m - w = (m - (w + 1)) + 1 by omega, srch]
      cases hb : shB q P d W F n (KR q P) w with
      | false => rw [if_pos (ib0.mpr rfl), ih (w + 1) c (by omega) (by omega)]; rfl
      | true =>
        rw [if_neg (by decide)]
        by_cases hk : nI c = k
        · rw [if_pos hk]; simp [hk]
        · rw [if_neg hk, ih (w + 1) (c + 1) (by omega) (by omega)]; simp [hk]
/-- promise 17 -/
theorem op_shared {N m n P : Nat} {v0 v1 v2 v3 : Int32} {vr vp : Int32} {f tw tf ps pf rf rl rp gs gst gl gp : Nat → Int32} {gh G : Nat → Int64} {q d W F : Nat → Nat} (k : Int32) (hN : 1000 ≤ N) (hD : Dic m d) (hA : DA f 0 d m) (hX : IX m d n W F) (hG : Ris G (fun t => ky d (W t) (F t)) n) (hq : PT q P) (hP : PA f 430 q P) (h0 : pf 0 = 0) (hC : CutC q P vr vp gs gst gl gp gh) : ∃ r v0' v1' v2' v3' tw' tf' ps' pf' rf' rl' rp', fX11_shared N vr gl gh (nI n) G k = some r ∧ fX12_shared N v0 v1 v2 v3 f tw tf ps pf rf rl rp k = some (r, v0', v1', v2', v3', tw', tf', ps', pf', rf', rl', rp') ∧ pf' 0 = 0 := by
  have h40 := hD.1
  obtain ⟨v2', tw', tf', ps', pf', rf', rl', rp', a1, a2, a3, a4⟩ := op_all (v0 := v0) (v1 := v1) (v2 := v2) (v3 := v3) (tw := tw) (tf := tf) (ps := ps) (rf := rf) (rl := rl) (rp := rp) hN hD hA hX hq hP h0
  unfold fX11_shared fX12_shared
  have e := e12_shared_l (k := k) (v1 := nI (Kn q P)) (v2 := v2') (pf := pf') hN hD hA hX a3 hq a4 N 0 0 (by omega) (by omega)
  rw [e11_sharedWords hN hD hX hG hq hC, Option.bind_some, e0_numberOf k (by omega), Option.bind_some, bs_srch h40, a1, Option.bind_some]
  exact ⟨_, _, _, _, _, _, _, _, _, _, _, _, rfl, e, a2⟩
theorem e12_of_l {N m n P r : Nat} {k v1 v2 : Int32} {f tw tf ps pf rf rl rp : Nat → Int32} {q d W F : Nat → Nat} (hN : 1000 ≤ N) (hD : Dic m d) (hA : DA f 0 d m) (hX : IX m d n W F) (hT : TA tw tf W F n) (hq : PT q P) (hM : CutM q P ps rf rl rp) (hr : r < KR q P) : ∀ K w c, w ≤ m → m + 1 ≤ K + w → fX12_of_25 N f (nI r) k K (nI c) (nI w) (nI n) v1 v2 (nI (KR q P)) tw tf ps pf rf rl rp = some (srch (ofB (bgK q P d W F r) W n) k (m - w) w c, nI n, v1, v2, nI (KR q P), tw, tf, ps, pf, rf, rl, rp) := by
  have h40 := hD.1
  intro K
  induction K with
  | zero => intro w c h2 h3; omega
  | succ K ih =>
    intro w c h2 h3
    rw [fX12_of_25, g0 (by decide), sb_cl0, hA.1]
    by_cases hw : m ≤ w
    · rw [if_pos (nI_le hw (by omega)), show m - w = 0 by omega, srch]
    · rw [if_neg (nI_ge (by omega) (by omega)), k_isOf hN hD hA hX hT hq hM hr (by omega), Option.bind_some, nI_1, nI_1, show m - w = (m - (w + 1)) + 1 by omega, srch]
      cases hb : ofB (bgK q P d W F r) W n w with
      | false => rw [if_pos (ib0.mpr rfl), ih (w + 1) c (by omega) (by omega)]; rfl
      | true =>
        rw [if_neg (by decide)]
        by_cases hk : nI c = k
        · rw [if_pos hk]; simp [hk]
        · rw [if_neg hk, ih (w + 1) (c + 1) (by omega) (by omega)]; simp [hk]
/-- promise 16 -/
theorem op_of {N m n P : Nat} {v0 v1 v2 v3 : Int32} {vr vp : Int32} {f tw tf ps pf rf rl rp gs gst gl gp : Nat → Int32} {gh G : Nat → Int64} {q d W F : Nat → Nat} (x k : Int32) (hN : 1000 ≤ N) (hD : Dic m d) (hA : DA f 0 d m) (hX : IX m d n W F) (hG : Ris G (fun t => ky d (W t) (F t)) n) (hq : PT q P) (hP : PA f 430 q P) (h0 : pf 0 = 0) (hC : CutC q P vr vp gs gst gl gp gh) : ∃ r v0' v1' v2' v3' tw' tf' ps' pf' rf' rl' rp', fX11_of N vr gl gh (nI n) G x k = some r ∧ fX12_of N v0 v1 v2 v3 f tw tf ps pf rf rl rp x k = some (r, v0', v1', v2', v3', tw', tf', ps', pf', rf', rl', rp') ∧ pf' 0 = 0 := by
  have h40 := hD.1
  obtain ⟨k1, k13, k3⟩ := K_ok hq
  obtain ⟨v2', tw', tf', ps', pf', rf', rl', rp', a1, a2, a3, a4⟩ := op_all (v0 := v0) (v1 := v1) (v2 := v2) (v3 := v3) (tw := tw) (tf := tf) (ps := ps) (rf := rf) (rl := rl) (rp := rp) hN hD hA hX hq hP h0
  unfold fX11_of fX12_of
  rw [a1, Option.bind_some]
  dsimp only
  rw [hC.1]
  rcases isIn_m1 (x := x) (m := KR q P) (by omega) with ⟨h1, h2⟩ | ⟨r, hr, rfl, h1⟩
  · rw [h1, Option.bind_some, if_pos rfl, e1_hasRun_out h2, Option.bind_some, if_pos rfl]
    exact ⟨_, _, _, _, _, _, _, _, _, _, _, _, rfl, rfl, a2⟩
  · rw [h1, Option.bind_some, if_neg (show ¬ (1 : Int32) = 0 by decide), e1_hasRun (by omega) hr, Option.bind_some, if_neg (show ¬ (1 : Int32) = 0 by decide), ← hC.1, e11_wordsOfRun hN hD hX hG hq hC hr, Option.bind_some, e0_numberOf k (by omega), Option.bind_some, bs_srch h40, hC.1]
    have e := e12_of_l (k := k) (v1 := nI (Kn q P)) (v2 := v2') (pf := pf') hN hD hA hX a3 hq a4 hr N 0 0 (by omega) (by omega)
    exact ⟨_, _, _, _, _, _, _, _, _, _, _, _, rfl, e, a2⟩
