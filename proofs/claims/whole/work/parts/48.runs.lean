/-! ===== what is asked of the runs ===== -/
theorem cu_some (z pc : Nat → Nat) : ∀ k, (∃ j, j < k ∧ z j ≠ 63) → 1 ≤ (cu z pc k).1
  | 0, ⟨j, hj, _⟩ => absurd hj (Nat.not_lt_zero j)
  | k + 1, ⟨j, hj, hz⟩ => by
    have hci := cu_ok z pc k
    rw [cu]
    unfold cuS
    by_cases h : z k = 63
    · rw [if_pos h]
      exact cu_some z pc k ⟨j, by
        by_cases e : j = k
        · rw [e] at hz; exact absurd h hz
        · omega, hz⟩
    · rw [if_neg h]
      split
      · rename_i h2
        exact (hci.2.2 h2.1).1
      · exact Nat.le_add_left _ _
def HasS (T : TK) : Prop := ∃ j, j < T.2.2 ∧ T.1 j ≠ 63
theorem HasS_1 {T : TK} (h : HasS T) (x p : Nat) : HasS (tk1 T x p) := by
  obtain ⟨j, h1, h2⟩ := h
  exact ⟨j, by unfold tk1; dsimp only; omega, by unfold tk1; dsimp only; rw [un_n (by omega)]; exact h2⟩
theorem HasS_R (q : Nat → Nat) (p : Nat) : ∀ k T a, HasS T → HasS (tkR q p T a k)
  | 0, T, a, h => h
  | k + 1, T, a, h => by rw [tkR]; exact HasS_R q p k _ _ (HasS_1 h _ _)
theorem HasS_B (q : Nat → Nat) : ∀ k T pcs a, HasS T → HasS (tkB q T pcs a k).1
  | 0, T, pcs, a, h => h
  | k + 1, T, pcs, a, h => by
    rw [tkB]
    split
    · exact HasS_B q k _ _ _ h
    · split
      · exact HasS_B q k _ _ _ (HasS_1 h _ _)
      · exact HasS_B q k _ _ _ (HasS_1 h _ _)
theorem TKf_has (q : Nat → Nat) (P : Nat) : HasS (TKf q P).1 := by
  have ha : HasS (TKa q P) := ⟨(tkR q 0 TK0 (lst_ q P) (P - lst_ q P)).2.2, by unfold TKa tk1; dsimp only; omega, by unfold TKa tk1; dsimp only; rw [un_s]; decide⟩
  unfold TKf
  split
  · exact HasS_B q _ _ _ _ (HasS_R q 0 _ _ _ ha)
  · exact ha
def KR (q : Nat → Nat) (P : Nat) : Nat := (cuT (TKf q P).1).1
def Ko (q : Nat → Nat) (P r : Nat) : Nat := (cuT (TKf q P).1).2.1 r
def Ks (q : Nat → Nat) (P r : Nat) : Nat := (cuT (TKf q P).1).2.2.1 r
def Kc (q : Nat → Nat) (P r i : Nat) : Nat := cd ((TKf q P).1.1 (Ko q P r + i))
def Kp (q : Nat → Nat) (P r : Nat) : Nat := (TKf q P).1.2.1 (Ko q P r)
def Kn (q : Nat → Nat) (P : Nat) : Nat := (TKf q P).2
theorem K_okz {q : Nat → Nat} {P : Nat} (hq : PT q P) : ∀ j, j < (TKf q P).1.2.2 → okz ((TKf q P).1.1 j) := by
  obtain ⟨c, -, h⟩ := e1_lay (N := 1000) (g := fun i => nI (q i)) (v1 := 0) (v2 := 0) (v3 := 0) (v4 := 0) (c1 := fun _ => 0) (c2 := fun _ => 0) (c3 := fun _ => 0) (c4 := fun _ => 0) (c5 := fun _ => 0) (Nat.le_refl _) hq (fun i _ => rfl)
  exact fun j hj => (h.2.1 j hj).1
theorem K_ok {q : Nat → Nat} {P : Nat} (hq : PT q P) : 1 ≤ KR q P ∧ KR q P ≤ 13 ∧ ∀ r, r < KR q P → (1 ≤ Ks q P r ∧ Ko q P r + Ks q P r ≤ 13) ∧ ∀ i, i < Ks q P r → 1 ≤ Kc q P r i ∧ Kc q P r i < 32 ∧ sg (Kc q P r i) = (TKf q P).1.1 (Ko q P r + i) := by
  have hci := cu_ok (TKf q P).1.1 (TKf q P).1.2.1 (TKf q P).1.2.2
  change CI _ (cuT (TKf q P).1) _ at hci
  have hS := TKf_S hq
  have hz := K_okz hq
  refine ⟨cu_some _ _ _ (TKf_has q P), Nat.le_trans hci.1 hS, fun r hr => ?_⟩
  obtain ⟨a1, a2, a3⟩ := hci.2.1 r hr
  change _ ≤ Ks q P r at a1
  change Ko q P r + Ks q P r ≤ _ at a2
  refine ⟨⟨a1, by omega⟩, fun i hi => ?_⟩
  exact cd_ok (hz _ (by omega)) (a3 i hi)
/-- the cut as the class keeps it -/
def CutC (q : Nat → Nat) (P : Nat) (vr vp : Int32) (gs gst gl gp : Nat → Int32) (gh : Nat → Int64) : Prop :=
  vr = nI (KR q P) ∧ vp = nI (Kn q P) ∧ ∃ a : Nat → Nat, ∀ r, r < KR q P → gst r = nI (a r) ∧ a r + Ks q P r ≤ 13 ∧ gl r = nI (Ks q P r) ∧ gp r = nI (Kp q P r) ∧ gh r = lN (hr (Ks q P r) (Kc q P r)) ∧ ∀ i, i < Ks q P r → gs (a r + i) = nI (sg (Kc q P r i))
/-- Cut.lay -/
theorem op_lay {N P : Nat} {g : Nat → Int32} {q : Nat → Nat} {v1 v2 v3 v4 : Int32} {c1 c2 c3 c4 : Nat → Int32} {c5 : Nat → Int64} (hN : 1000 ≤ N) (hq : PT q P) (hS : SA g q P) : ∃ v1' v2' v3' v4' c1' c2' c3' c4' c5', fX1_lay N v1 v2 v3 v4 c1 c2 c3 c4 c5 (nI P) g = some (v1', v2', v3', v4', c1', c2', c3', c4', c5') ∧ CutC q P v2' v3' c1' c2' c3' c4' c5' := by
  obtain ⟨c, e, -, -, sz, a, a1, a2, a3, a4, a5, a6⟩ := e1_lay (v1 := v1) (v2 := v2) (v3 := v3) (v4 := v4) (c1 := c1) (c2 := c2) (c3 := c3) (c4 := c4) (c5 := c5) hN hq hS
  have hS13 := TKf_S hq
  refine ⟨_, _, _, _, _, _, _, _, _, e, a3, rfl, a, fun r hr => ?_⟩
  obtain ⟨b1, b2, b3, b4, b5, b6⟩ := a6 r hr
  refine ⟨b1, Nat.le_trans b2 (by omega), b3, b4, b5, fun i hi => ?_⟩
  rw [b6 i hi, (K_ok hq).2.2 r hr |>.2 i hi |>.2.2]; rfl
/-- the cut as the reference lays it -/
def CutM (q : Nat → Nat) (P : Nat) (ps rf rl rp : Nat → Int32) : Prop := ∀ r, r < KR q P → RM ps rf rl r (Ks q P r) (Ko q P r) (Kc q P r) ∧ rp r = nI (Kp q P r)
theorem op_runs {N P : Nat} {f ps pf rf rl rp : Nat → Int32} {q : Nat → Nat} {v1 v2 v3 : Int32} (hN : 1000 ≤ N) (hq : PT q P) (hP : PA f 430 q P) (h0 : pf 0 = 0) : ∃ v2' ps' pf' rf' rl' rp', fX12_laysRuns N v1 v2 v3 f ps pf rf rl rp = some (nI (Kn q P), v2', nI (KR q P), ps', pf', rf', rl', rp') ∧ pf' 0 = 0 ∧ CutM q P ps' rf' rl' rp' := by
  obtain ⟨ps', pf', rf', rl', rp', a1, a2, a3, a4⟩ := e12_laysRuns (v1 := v1) (v2 := v2) (v3 := v3) (ps := ps) (rf := rf) (rl := rl) (rp := rp) hN hq hP h0 (K_okz hq)
  refine ⟨_, ps', pf', rf', rl', rp', a1, a2, fun r hr => ?_⟩
  obtain ⟨m1, m2, m3⟩ := a4 r hr
  obtain ⟨⟨k1, k2⟩, k3⟩ := (K_ok hq).2.2 r hr
  refine ⟨⟨m2, m1, by omega, fun i hi => ?_⟩, m3⟩
  have hlt : Ko q P r + i < (TKf q P).1.2.2 := by
    have hci := cu_ok (TKf q P).1.1 (TKf q P).1.2.1 (TKf q P).1.2.2
    have : Ko q P r + Ks q P r ≤ (TKf q P).1.2.2 := (hci.2.1 r hr).2.1
    omega
  rw [a3 _ hlt, (k3 i hi).2.2]
theorem op_pieces {N P : Nat} {f ps pf : Nat → Int32} {q : Nat → Nat} {v1 v2 : Int32} (hN : 1000 ≤ N) (hq : PT q P) (hP : PA f 430 q P) (h0 : pf 0 = 0) : ∃ v2' ps' pf', fX12_laysPieces N v1 v2 f ps pf = some (nI (Kn q P), v2', ps', pf') ∧ pf' 0 = 0 := by
  obtain ⟨ps', pf', bd, a1, a2, a3⟩ := e12_laysPieces (v1 := v1) (v2 := v2) (ps := ps) hN hq hP h0
  exact ⟨_, ps', pf', a1, by rw [a3.2.2.2.1 0 (Nat.zero_le _), a3.1]; rfl⟩
theorem op_all {N m n P : Nat} {f tw tf ps pf rf rl rp : Nat → Int32} {q d W F : Nat → Nat} {v0 v1 v2 v3 : Int32} (hN : 1000 ≤ N) (hD : Dic m d) (hA : DA f 0 d m) (hX : IX m d n W F) (hq : PT q P) (hP : PA f 430 q P) (h0 : pf 0 = 0) : ∃ v2' tw' tf' ps' pf' rf' rl' rp', fX12_laysAll N v0 v1 v2 v3 f tw tf ps pf rf rl rp = some (nI n, nI (Kn q P), v2', nI (KR q P), tw', tf', ps', pf', rf', rl', rp') ∧ pf' 0 = 0 ∧ TA tw' tf' W F n ∧ CutM q P ps' rf' rl' rp' := by
  have h40 := hD.1
  obtain ⟨tw', tf', a1, a2⟩ := e12_laysTurns_as (tw := tw) (tf := tf) (v := v0) (b := 0) hN hD hA (by omega) hX
  obtain ⟨v2', ps', pf', rf', rl', rp', b1, b2, b3⟩ := op_runs (v1 := v1) (v2 := v2) (v3 := v3) (ps := ps) (rf := rf) (rl := rl) (rp := rp) hN hq hP h0
  unfold fX12_laysAll
  rw [show fX12_laysTurns N v0 f tw tf 0 = some (nI n, tw', tf') from a1, Option.bind_some, b1, Option.bind_some]
  exact ⟨v2', tw', tf', ps', pf', rf', rl', rp', rfl, b2, a2, b3⟩
theorem e1_hasRun {R r : Nat} (hR : R < 100) (hr : r < R) : fX1_hasRun (nI R) (nI r) = some 1 := by
  unfold fX1_hasRun
  rw [if_neg (nI_pos (by omega)), if_neg (nI_ge hr (by omega))]
theorem e1_hasRun_out {R : Nat} {x : Int32} (h : x < 0 ∨ nI R ≤ x) : fX1_hasRun (nI R) x = some 0 := by
  unfold fX1_hasRun
  by_cases h0 : x < 0
  · rw [if_pos h0]
  · rw [if_neg h0, if_pos (h.resolve_left h0)]
theorem e1_lengthOf {q : Nat → Nat} {P r : Nat} {vr vp : Int32} {gs gst gl gp : Nat → Int32} {gh : Nat → Int64} (hq : PT q P) (hC : CutC q P vr vp gs gst gl gp gh) (hr : r < KR q P) : fX1_lengthOf vr gl (nI r) = some (nI (Ks q P r)) := by
  have k13 := (K_ok hq).2.1
  obtain ⟨rfl, -, a, h⟩ := hC
  unfold fX1_lengthOf
  rw [e1_hasRun (by omega) hr, Option.bind_some, if_neg (by decide), gi (by omega) (by decide), nI_clamp (by omega), (h r hr).2.2.1]
theorem e1_pieceOf {q : Nat → Nat} {P r : Nat} {vr vp : Int32} {gs gst gl gp : Nat → Int32} {gh : Nat → Int64} (hq : PT q P) (hC : CutC q P vr vp gs gst gl gp gh) (hr : r < KR q P) : fX1_pieceOf vr gp (nI r) = some (nI (Kp q P r)) := by
  have k13 := (K_ok hq).2.1
  obtain ⟨rfl, -, a, h⟩ := hC
  unfold fX1_pieceOf
  rw [e1_hasRun (by omega) hr, Option.bind_some, if_neg (by decide), gi (by omega) (by decide), nI_clamp (by omega), (h r hr).2.2.2.1]
theorem e1_headOf {q : Nat → Nat} {P r : Nat} {vr vp : Int32} {gs gst gl gp : Nat → Int32} {gh : Nat → Int64} (hq : PT q P) (hC : CutC q P vr vp gs gst gl gp gh) (hr : r < KR q P) : fX1_headOf vr gh (nI r) = some (lN (CTurnedWordsLaw_law_r6030_6b22dd.hr (Ks q P r) (Kc q P r))) := by
  have k13 := (K_ok hq).2.1
  obtain ⟨rfl, -, a, h⟩ := hC
  unfold fX1_headOf
  rw [e1_hasRun (by omega) hr, Option.bind_some, if_neg (by decide), gi (by omega) (by decide), nI_clamp (by omega), (h r hr).2.2.2.2.1]
/-- a turn begins with run r -/
def bgK (q : Nat → Nat) (P : Nat) (d W F : Nat → Nat) (r : Nat) : Nat → Bool := bg d W F (Ks q P r) (Kc q P r)
theorem e11_rangeSize {N m n P r : Nat} {q d W F : Nat → Nat} {vr vp : Int32} {gs gst gl gp : Nat → Int32} {gh G : Nat → Int64} (hN : 1000 ≤ N) (hD : Dic m d) (hX : IX m d n W F) (hG : Ris G (fun t => ky d (W t) (F t)) n) (hq : PT q P) (hC : CutC q P vr vp gs gst gl gp gh) (hr : r < KR q P) : fX11_rangeSize N vr gl gh (nI n) G (nI r) = some (nI (fb_ct (bgK q P d W F r) n)) := by
  obtain ⟨⟨k1, k2⟩, k3⟩ := (K_ok hq).2.2 r hr
  have hc : ∀ i, i < Ks q P r → Kc q P r i < 32 := fun i hi => (k3 i hi).2.1
  unfold fX11_rangeSize
  have hlt := hr_lt hc
  rw [e1_headOf hq hC hr, Option.bind_some, e1_lengthOf hq hC hr, Option.bind_some, e3_to hN hD hX hG hc k1 (by omega), Option.bind_some, Option.bind_some, e3_from hN hD hX hG (by omega), Option.bind_some, pk_sub (bl_mono hX.2.2.1 (by have := ab_ge (s := Ks q P r) (c := Kc q P r); omega)), ← rg_ct hX hD hc k1]
  rfl
theorem e11_wordsOfRun {N m n P r : Nat} {q d W F : Nat → Nat} {vr vp : Int32} {gs gst gl gp : Nat → Int32} {gh G : Nat → Int64} (hN : 1000 ≤ N) (hD : Dic m d) (hX : IX m d n W F) (hG : Ris G (fun t => ky d (W t) (F t)) n) (hq : PT q P) (hC : CutC q P vr vp gs gst gl gp gh) (hr : r < KR q P) : fX11_wordsOfRun N vr gl gh (nI n) G (nI r) = some (lN (bs (ofB (bgK q P d W F r) W n) m)) := by
  obtain ⟨⟨k1, k2⟩, k3⟩ := (K_ok hq).2.2 r hr
  have hc : ∀ i, i < Ks q P r → Kc q P r i < 32 := fun i hi => (k3 i hi).2.1
  unfold fX11_wordsOfRun
  rw [e1_headOf hq hC hr, Option.bind_some, e1_lengthOf hq hC hr, Option.bind_some, e3_words hN hD hX hG hc k1 (by omega), Option.bind_some]
  rfl
theorem k_rangeOf {N m n P r : Nat} {f tw tf ps rf rl rp : Nat → Int32} {q d W F : Nat → Nat} (hN : 1000 ≤ N) (hD : Dic m d) (hA : DA f 0 d m) (hX : IX m d n W F) (hT : TA tw tf W F n) (hq : PT q P) (hM : CutM q P ps rf rl rp) (hr : r < KR q P) : fX12_rangeOf N (nI n) f tw tf ps rf rl (nI r) = some (nI (fb_ct (bgK q P d W F r) n)) := by
  have k13 := (K_ok hq).2.1
  exact e12_rangeOf hN hD hA hX hT (by omega) (hM r hr).1 (fun i hi => ⟨(((K_ok hq).2.2 r hr).2 i hi).1, (((K_ok hq).2.2 r hr).2 i hi).2.1⟩)
theorem k_isOf {N m n P r w : Nat} {f tw tf ps rf rl rp : Nat → Int32} {q d W F : Nat → Nat} (hN : 1000 ≤ N) (hD : Dic m d) (hA : DA f 0 d m) (hX : IX m d n W F) (hT : TA tw tf W F n) (hq : PT q P) (hM : CutM q P ps rf rl rp) (hr : r < KR q P) (hw : w < 1000) : fX12_isOf N (nI n) f tw tf ps rf rl (nI w) (nI r) = some (if ofB (bgK q P d W F r) W n w then 1 else 0) := by
  have k13 := (K_ok hq).2.1
  exact e12_isOf hN hD hA hX hT (by omega) (hM r hr).1 (fun i hi => ⟨(((K_ok hq).2.2 r hr).2 i hi).1, (((K_ok hq).2.2 r hr).2 i hi).2.1⟩) hw
theorem k_begins {N m n P r t : Nat} {f tw tf ps rf rl rp : Nat → Int32} {q d W F : Nat → Nat} (hN : 1000 ≤ N) (hD : Dic m d) (hA : DA f 0 d m) (hX : IX m d n W F) (hT : TA tw tf W F n) (hq : PT q P) (hM : CutM q P ps rf rl rp) (hr : r < KR q P) (ht : t < n) : fX12_begins N f tw tf ps rf rl 0 (nI t) (nI r) = some (if bgK q P d W F r t then 1 else 0) := by
  have k13 := (K_ok hq).2.1
  exact e12_begins hN hD hA hX hT ht (by omega) (hM r hr).1 (fun i hi => ⟨(((K_ok hq).2.2 r hr).2 i hi).1, (((K_ok hq).2.2 r hr).2 i hi).2.1⟩)
