/-! ===== both lay the same index ===== -/
theorem e3_keyOf {d : Nat → Nat} {w k : Nat} (hw : w < 40) (hk : k < 8) : fX3_keyOf (lN (tr (d w) k)) (nI w) (nI k) = some (lN (ky d w k)) := by
  have ht := tr_lt (d w) k
  unfold fX3_keyOf
  have e9 : lN (tr (d w) k) <<< (Int32.toInt64 (9 : Int32) &&& 63) = lN (tr (d w) k * 512) := shlL (tr (d w) k) (k := 9) (by decide)
  have e3 : (Int32.toInt64 (nI w)) <<< (Int32.toInt64 (3 : Int32) &&& 63) = lN (w * 8) := by
    rw [nI_l (by omega)]; exact shlL w (k := 3) (by decide)
  rw [e9, e3, nI_l (by omega), g_or (k := 9) (p := 512) (by decide) (by omega) (by omega)]
  rw [show tr (d w) k * 512 + w * 8 = (tr (d w) k * 64 + w) * 8 by omega, g_or (k := 3) (p := 8) (by decide) (by omega) (by omega)]
  unfold ky
  congr 2; omega
theorem tot_le {d : Nat → Nat} : ∀ w, (∀ v, v < w → ln (d v) ≤ 7) → tot d w ≤ 8 * w
  | 0, _ => Nat.le_refl 0
  | w + 1, h => by
    have h1 := tot_le w (fun v hv => h v (by omega))
    have h2 := h w (by omega)
    rw [tot_s]; omega
theorem PX_n {d : Nat → Nat} {w k n m : Nat} {W F : Nat → Nat} (hD : Dic m d) (h : PX d w k n W F) (hw : w < m) (hk : k ≤ ln (d w)) : n < 320 := by
  have h1 := tot_le (d := d) w (fun v hv => (hD.2.2 v (by omega)).2.2.1)
  have h7 := (hD.2.2 w hw).2.2.1
  have h40 := hD.1
  have := h.1
  omega
theorem PX_sma {d : Nat → Nat} {w k n m : Nat} {W F : Nat → Nat} (hD : Dic m d) (h : PX d w k n W F) (hw : w ≤ m) (hk : k = 0 ∨ w < m) : Sma (fun t => ky d (W t) (F t)) n := fun t ht => by
  have h40 := hD.1
  obtain ⟨a, b⟩ := h.2.1 t ht
  have := (hD.2.2 (W t) (by omega)).2.2.1
  have := ky_lt d (w := W t) (k := F t) (by omega) (by omega)
  show ky d (W t) (F t) < _
  omega
/-- the class: turns of one word -/
theorem e3_lay_32 {N n1 m w : Nat} {v1 : Int32} {g1 : Nat → Int64} {d : Nat → Nat} (rc : Int32 → Int32 → (Nat → Int64) → Option (Int32 × (Nat → Int64))) (hN : 1000 ≤ N) (hD : Dic m d) (hw : w < m) : ∀ K k n G W F, k ≤ ln (d w) + 1 → ln (d w) + 2 ≤ K + k → PX d w k n W F → Ris G (fun t => ky d (W t) (F t)) n → ∃ n' G' W' F', fX3_lay_32 N n1 v1 g1 rc K (nI w) (lN (d w)) (nI (ln (d w))) (nI k) (nI n) G = rc (nI (w + 1)) (nI n') G' ∧ PX d (w + 1) 0 n' W' F' ∧ Ris G' (fun t => ky d (W' t) (F' t)) n' := by
  have h40 := hD.1
  have hww := hD.2.2 w hw
  have l7 := hww.2.2.1
  intro K
  induction K with
  | zero => intro k n G W F h1 h2; omega
  | succ K ih =>
    intro k n G W F h1 h2 hX hR
    rw [fX3_lay_32]
    by_cases hk : ln (d w) < k
    · have hke : k = ln (d w) + 1 := by omega
      rw [if_pos (nI_lt hk (by omega)), nI_1]
      subst hke
      exact ⟨n, G, W, F, rfl, PX_next hX, hR⟩
    · have hn := PX_n hD hX hw (by omega)
      have hS := PX_sma hD hX (by omega) (Or.inr hw)
      have hky := ky_lt d (w := w) (k := k) (by omega) (by omega)
      have hnew := PX_new hX (by omega) (by omega) (fun v hv => (hD.2.2 v (by omega)).2.2.1)
      rw [if_neg (nI_nlt (by omega) (by omega)), e8_turned (by omega) hww (by omega), Option.bind_some, e3_keyOf (by omega) (by omega), Option.bind_some]
      obtain ⟨G', a1, a2⟩ := e7_add_yes (N := N) (n := 320) (by omega) hR hX.2.2.1 hS (by omega) hn (by omega) hnew
      rw [a1, Option.bind_some, nI_1]
      dsimp only
      refine ih (k + 1) (n + 1) G' _ _ (by omega) (by omega) (PX_add hX (by omega) (by omega) (fun v hv => (hD.2.2 v (by omega)).2.2.1)) ?_
      rw [insF_ky]; exact a2
theorem e3_lay_9 {N n1 m : Nat} {g1 : Nat → Int64} {d : Nat → Nat} (hN : 1000 ≤ N) (hD : Dic m d) (hR1 : Ris g1 d m) (hn1 : m ≤ n1) (hn5 : n1 ≤ 511) : ∀ K w n G W F, w ≤ m → m + 1 ≤ K + w → PX d w 0 n W F → Ris G (fun t => ky d (W t) (F t)) n → ∃ n' G' W' F', fX3_lay_9 N n1 (nI m) g1 K (nI w) (nI n) G = some (nI n', G') ∧ IX m d n' W' F' ∧ Ris G' (fun t => ky d (W' t) (F' t)) n' := by
  have h40 := hD.1
  intro K
  induction K with
  | zero => intro w n G W F h1 h2; omega
  | succ K ih =>
    intro w n G W F h1 h2 hX hR
    rw [fX3_lay_9, fX7_size, Option.bind_some]
    by_cases hw : m ≤ w
    · have hwm : w = m := by omega
      rw [if_pos (nI_le hw (by omega))]
      subst hwm
      exact ⟨n, G, W, F, rfl, hX, hR⟩
    · have hwm : w < m := by omega
      rw [if_neg (nI_ge (by omega) (by omega)), e7_at hR1 hn1 hn5 (by omega), if_pos hwm, Option.bind_some, e8_length (by omega) (hD.2.2 w hwm).1, Option.bind_some]
      have l7 := (hD.2.2 w hwm).2.2.1
      obtain ⟨n', G', W', F', a1, a2, a3⟩ := e3_lay_32 (n1 := n1) (v1 := nI m) (g1 := g1) (fX3_lay_9 N n1 (nI m) g1 K) hN hD hwm N 0 n G W F (by omega) (by omega) hX hR
      rw [show (0 : Int32) = nI 0 from rfl, a1]
      exact ih (w + 1) n' G' W' F' (by omega) (by omega) a2 a3
theorem e3_lay {N n1 m : Nat} {v0 : Int32} {g0 g1 : Nat → Int64} {d : Nat → Nat} (hN : 1000 ≤ N) (hD : Dic m d) (hR1 : Ris g1 d m) (hn1 : m ≤ n1) (hn5 : n1 ≤ 511) : ∃ n G W F, fX3_lay N n1 v0 g0 (nI m) g1 = some (nI n, G) ∧ IX m d n W F ∧ Ris G (fun t => ky d (W t) (F t)) n := by
  have h40 := hD.1
  unfold fX3_lay fX7_clear
  rw [Option.bind_some]
  exact e3_lay_9 hN hD hR1 hn1 hn5 N 0 0 g0 (fun _ => 0) (fun _ => 0) (by omega) (by omega) (PX_0 d _ _) (fun i hi => by omega)
/-- the model's turns -/
def TA (tw tf : Nat → Int32) (W F : Nat → Nat) (n : Nat) : Prop := ∀ t, t < n → tw t = nI (W t) ∧ tf t = nI (F t)
theorem e12_enters_l {N b m w k n : Nat} {f : Nat → Int32} {d W F : Nat → Nat} (hN : 1000 ≤ N) (hD : Dic m d) (hA : DA f b d m) (hb : b + 1 + 8 * m ≤ 5228) (hw : w < m) (hk : k ≤ ln (d w)) (hX : PX d w k n W F) : ∀ K p tw tf, bl (fun t => ky d (W t) (F t)) n (ky d w k) ≤ p → p ≤ n → p + 1 ≤ K → (∀ t, t < p → tw t = nI (W t) ∧ tf t = nI (F t)) → (∀ t, p < t → t ≤ n → tw t = nI (W (t - 1)) ∧ tf t = nI (F (t - 1))) → ∃ tw' tf', fX12_enters_6 N f (nI b) (nI w) (nI k) K (nI p) (nI n) tw tf = some (nI (n + 1), tw', tf') ∧ TA tw' tf' (insF W (bl (fun t => ky d (W t) (F t)) n (ky d w k)) w) (insF F (bl (fun t => ky d (W t) (F t)) n (ky d w k)) k) (n + 1) := by
  have h40 := hD.1
  have hn := PX_n hD hX hw hk
  have hww := hD.2.2 w hw
  have l7 := hww.2.2.1
  have hnew := PX_new hX (by omega) (by omega) (fun v hv => (hD.2.2 v (by omega)).2.2.1)
  intro K
  induction K with
  | zero => intro p tw tf h1 h2 h3; omega
  | succ K ih =>
    intro p tw tf h1 h2 h3 hlo hhi
    have fin : bl (fun t => ky d (W t) (F t)) n (ky d w k) = p → ∃ tw' tf', fX12_enters_84 N f (nI b) (nI w) (nI k) (nI p) (nI n) tw tf = some (nI (n + 1), tw', tf') ∧ TA tw' tf' (insF W (bl (fun t => ky d (W t) (F t)) n (ky d w k)) w) (insF F (bl (fun t => ky d (W t) (F t)) n (ky d w k)) k) (n + 1) := by
      intro hp
      unfold fX12_enters_84
      rw [gi (by omega) (by decide), gi (by omega) (by decide), nI_clamp (by omega), nI_1, hp]
      refine ⟨_, _, rfl, fun t ht => ?_⟩
      unfold insF
      by_cases c1 : t < p
      · rw [if_pos c1, if_pos c1, pk_un (by omega), pk_un (by omega)]; exact hlo t c1
      · rw [if_neg c1, if_neg c1]
        by_cases c2 : t = p
        · rw [if_pos c2, if_pos c2, c2, pk_us, pk_us]; exact ⟨rfl, rfl⟩
        · rw [if_neg c2, if_neg c2, pk_un c2, pk_un c2]; exact hhi t (by omega) (by omega)
    rw [fX12_enters_6]
    by_cases hp : p = 0
    · rw [if_pos (show nI p ≤ 0 by rw [hp]; decide)]
      exact fin (by omega)
    · rw [if_neg (show ¬ nI p ≤ 0 from nI_nle (by omega) (by omega))]
      have e1 : nI p - 1 = nI (p - 1) := pk_sub (b := 1) (by omega)
      obtain ⟨a, b'⟩ := hX.2.1 (p - 1) (by omega)
      have hW1 : W (p - 1) < m := by omega
      have hwp := hD.2.2 _ hW1
      have l7' := hwp.2.2.1
      obtain ⟨t1, t2⟩ := hlo (p - 1) (by omega)
      rw [e12_wordAt, Option.bind_some, e1, gi (by omega) (by decide), nI_clamp (by omega), t1, t2, e12_wordAt, Option.bind_some, gi2 (by omega) (by decide), e12_isAhead hN (hA.2 w hw) (hA.2 _ hW1) hww hwp (by omega) (by omega) hk b', Option.bind_some]
      have hne : tr (d w) k ≠ tr (d (W (p - 1))) (F (p - 1)) := fun z => by
        have q := tr_inj hww hwp hk b' z
        have hwW : w = W (p - 1) := by
          rcases Nat.lt_trichotomy w (W (p - 1)) with c | c | c
          · have := hD.2.1 _ _ c hW1; omega
          · exact c
          · have := hD.2.1 _ _ c hw; omega
        omega
      by_cases hlt : tr (d w) k < tr (d (W (p - 1))) (F (p - 1))
      · have hkey : ky d w k < ky d (W (p - 1)) (F (p - 1)) := by unfold ky; omega
        have hbl : bl (fun t => ky d (W t) (F t)) n (ky d w k) ≤ p - 1 := Classical.byContradiction fun z => by
          have := bl_lt (d := fun t => ky d (W t) (F t)) (m := n) (x := ky d w k) (i := p - 1) (by omega)
          omega
        rw [if_pos hlt, if_neg (by decide), gi2 (by omega) (by decide), gi (by omega) (by decide), gi2 (by omega) (by decide), gi (by omega) (by decide), nI_clamp (by omega), sb_m1 (by omega)]
        refine ih (p - 1) _ _ hbl (by omega) (by omega) (fun t ht => ?_) (fun t ht1 ht2 => ?_)
        · rw [pk_un (by omega), pk_un (by omega)]; exact hlo t (by omega)
        · by_cases htp : t = p
          · rw [htp, pk_us, pk_us]; exact ⟨rfl, rfl⟩
          · rw [pk_un htp, pk_un htp]; exact hhi t (by omega) ht2
      · have hkey : ky d (W (p - 1)) (F (p - 1)) < ky d w k := by unfold ky; omega
        rw [if_neg hlt, if_pos rfl]
        refine fin (bl_is (d := fun t => ky d (W t) (F t)) (m := n) (x := ky d w k) (p := p) h2 (fun i hi => ?_) (fun hpn => bl_ge (d := fun t => ky d (W t) (F t)) (m := n) (x := ky d w k) (i := p) hX.2.2.1 h1 hpn))
        by_cases c : i = p - 1
        · rw [c]; exact hkey
        · have : ky d (W i) (F i) < ky d (W (p - 1)) (F (p - 1)) := hX.2.2.1 i (p - 1) (by omega) (by omega)
          omega
theorem e12_laysTurns_19 {N b m w : Nat} {f : Nat → Int32} {d : Nat → Nat} (rc : Int32 → Int32 → (Nat → Int32) → (Nat → Int32) → Option (Int32 × (Nat → Int32) × (Nat → Int32))) (hN : 1000 ≤ N) (hD : Dic m d) (hA : DA f b d m) (hb : b + 1 + 8 * m ≤ 5228) (hw : w < m) : ∀ K k n tw tf W F, k ≤ ln (d w) + 1 → ln (d w) + 2 ≤ K + k → PX d w k n W F → TA tw tf W F n → ∃ n' tw' tf' W' F', fX12_laysTurns_19 N f (nI b) rc K (nI w) (nI k) (nI n) tw tf = rc (nI (w + 1)) (nI n') tw' tf' ∧ PX d (w + 1) 0 n' W' F' ∧ TA tw' tf' W' F' n' := by
  have h40 := hD.1
  have hww := hD.2.2 w hw
  have l7 := hww.2.2.1
  intro K
  induction K with
  | zero => intro k n tw tf W F h1 h2; omega
  | succ K ih =>
    intro k n tw tf W F h1 h2 hX hT
    rw [fX12_laysTurns_19, e12_wordAt, Option.bind_some, gi (by omega) (by decide), nI_clamp (by omega), (hA.2 w hw).1]
    by_cases hk : ln (d w) < k
    · have hke : k = ln (d w) + 1 := by omega
      rw [if_pos (nI_lt hk (by omega)), nI_1]
      subst hke
      exact ⟨n, tw, tf, W, F, rfl, PX_next hX, hT⟩
    · have hn := PX_n hD hX hw (by omega)
      rw [if_neg (nI_nlt (by omega) (by omega))]
      unfold fX12_enters
      obtain ⟨tw', tf', a1, a2⟩ := e12_enters_l hN hD hA hb hw (show k ≤ ln (d w) by omega) hX N n tw tf (bl_le _ _ _) (Nat.le_refl n) (by omega) (fun t ht => hT t ht) (fun t h1 h2 => by omega)
      rw [a1, Option.bind_some, nI_1]
      dsimp only
      exact ih (k + 1) (n + 1) tw' tf' _ _ (by omega) (by omega) (PX_add hX (by omega) (by omega) (fun v hv => (hD.2.2 v (by omega)).2.2.1)) a2
theorem e12_laysTurns_7 {N b m : Nat} {f : Nat → Int32} {d : Nat → Nat} (hN : 1000 ≤ N) (hD : Dic m d) (hA : DA f b d m) (hb : b + 1 + 8 * m ≤ 5228) : ∀ K w n tw tf W F, w ≤ m → m + 1 ≤ K + w → PX d w 0 n W F → TA tw tf W F n → ∃ n' tw' tf' W' F', fX12_laysTurns_7 N f (nI b) K (nI w) (nI n) tw tf = some (nI n', tw', tf') ∧ IX m d n' W' F' ∧ TA tw' tf' W' F' n' := by
  have h40 := hD.1
  intro K
  induction K with
  | zero => intro w n tw tf W F h1 h2; omega
  | succ K ih =>
    intro w n tw tf W F h1 h2 hX hT
    rw [fX12_laysTurns_7, gi (by omega) (by decide), nI_clamp (by omega), hA.1]
    by_cases hw : m ≤ w
    · have hwm : w = m := by omega
      rw [if_pos (nI_le hw (by omega))]
      subst hwm
      exact ⟨n, tw, tf, W, F, rfl, hX, hT⟩
    · have hwm : w < m := by omega
      have l7 := (hD.2.2 w hwm).2.2.1
      rw [if_neg (nI_ge (by omega) (by omega))]
      obtain ⟨n', tw', tf', W', F', a1, a2, a3⟩ := e12_laysTurns_19 (fX12_laysTurns_7 N f (nI b) K) hN hD hA hb hwm N 0 n tw tf W F (by omega) (by omega) hX hT
      rw [show (0 : Int32) = nI 0 from rfl, a1]
      exact ih (w + 1) n' tw' tf' W' F' (by omega) (by omega) a2 a3
theorem e12_laysTurns {N b m : Nat} {f tw tf : Nat → Int32} {v : Int32} {d : Nat → Nat} (hN : 1000 ≤ N) (hD : Dic m d) (hA : DA f b d m) (hb : b + 1 + 8 * m ≤ 5228) : ∃ n tw' tf' W F, fX12_laysTurns N v f tw tf (nI b) = some (nI n, tw', tf') ∧ IX m d n W F ∧ TA tw' tf' W F n := by
  have h40 := hD.1
  unfold fX12_laysTurns
  exact e12_laysTurns_7 hN hD hA hb N 0 0 tw tf (fun _ => 0) (fun _ => 0) (by omega) (by omega) (PX_0 d _ _) (fun i hi => by omega)
/-- the same, with the class's own -/
theorem e12_laysTurns_as {N b m n : Nat} {f tw tf : Nat → Int32} {v : Int32} {d W F : Nat → Nat} (hN : 1000 ≤ N) (hD : Dic m d) (hA : DA f b d m) (hb : b + 1 + 8 * m ≤ 5228) (hX : IX m d n W F) : ∃ tw' tf', fX12_laysTurns N v f tw tf (nI b) = some (nI n, tw', tf') ∧ TA tw' tf' W F n := by
  obtain ⟨n', tw', tf', W', F', a1, a2, a3⟩ := e12_laysTurns (tw := tw) (tf := tf) (v := v) hN hD hA hb
  have hn : n' = n := by have := a2.1; have := hX.1; omega
  subst hn
  refine ⟨tw', tf', a1, fun t ht => ?_⟩
  have := IX_one hD a2 hX t ht
  rw [← this.1, ← this.2]; exact a3 t ht
