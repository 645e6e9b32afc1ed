/-! ===== a pattern cut: its tokens, its runs ===== -/
def un (f : Nat → Nat) (k x : Nat) : Nat → Nat := fun j => if j = k then x else f j
theorem un_s {f : Nat → Nat} {k x : Nat} : un f k x k = x := if_pos rfl
theorem un_n {f : Nat → Nat} {k x j : Nat} (h : j ≠ k) : un f k x j = f j := if_neg h
/-- the code of a sign -/
def cd (x : Nat) : Nat := if x = 36 then 1 else x - 95
def okz (x : Nat) : Prop := x = 36 ∨ x = 63 ∨ (97 ≤ x ∧ x ≤ 122)
theorem cd_ok {x : Nat} (h : okz x) (h6 : x ≠ 63) : 1 ≤ cd x ∧ cd x < 32 ∧ sg (cd x) = x := by
  unfold okz at h
  unfold cd sg
  split <;> split <;> (try split) <;> omega
/-- runs: how many, where each begins, how long, whether one is open -/
abbrev CU := Nat × (Nat → Nat) × (Nat → Nat) × Bool
def cuS (C : CU) (x : Nat) (nw : Bool) (k : Nat) : CU :=
  if x = 63 then (C.1, C.2.1, C.2.2.1, false)
  else if C.2.2.2 = true ∧ nw = false then (C.1, C.2.1, un C.2.2.1 (C.1 - 1) (C.2.2.1 (C.1 - 1) + 1), true)
  else (C.1 + 1, un C.2.1 C.1 k, un C.2.2.1 C.1 1, true)
def nwP (pc : Nat → Nat) (k p : Nat) : Bool := decide (k = 0 ∨ pc (k - 1) ≠ p)
def cu (z pc : Nat → Nat) : Nat → CU
  | 0 => (0, fun _ => 0, fun _ => 0, false)
  | k + 1 => cuS (cu z pc k) (z k) (nwP pc k (pc k)) k
theorem nwP_cong {pc pc' : Nat → Nat} {k p : Nat} (h : ∀ j, j < k → pc j = pc' j) : nwP pc k p = nwP pc' k p := by
  unfold nwP
  by_cases hk : k = 0
  · simp [hk]
  · rw [h (k - 1) (by omega)]
theorem cu_cong {z pc z' pc' : Nat → Nat} : ∀ k, (∀ j, j < k → z j = z' j ∧ pc j = pc' j) → cu z pc k = cu z' pc' k
  | 0, _ => rfl
  | k + 1, h => by
    rw [cu, cu, cu_cong k (fun j hj => h j (by omega)), (h k (by omega)).1, (h k (by omega)).2, nwP_cong (fun j hj => (h j (by omega)).2)]
def CI (z : Nat → Nat) (C : CU) (k : Nat) : Prop := C.1 ≤ k ∧ (∀ r, r < C.1 → 1 ≤ C.2.2.1 r ∧ C.2.1 r + C.2.2.1 r ≤ k ∧ ∀ i, i < C.2.2.1 r → z (C.2.1 r + i) ≠ 63) ∧ (C.2.2.2 = true → 1 ≤ C.1 ∧ C.2.1 (C.1 - 1) + C.2.2.1 (C.1 - 1) = k)
theorem CI_step {z : Nat → Nat} {C : CU} {k : Nat} (h : CI z C k) (nw : Bool) : CI z (cuS C (z k) nw k) (k + 1) := by
  obtain ⟨R, o, s, b⟩ := C
  obtain ⟨h1, h2, h3⟩ := h
  dsimp only at h1 h2 h3
  unfold cuS
  dsimp only
  split
  · exact ⟨by dsimp only; omega, fun r hr => by obtain ⟨a1, a2, a3⟩ := h2 r hr; exact ⟨a1, by dsimp only; omega, a3⟩, fun q => by cases q⟩
  · rename_i hz
    split
    · rename_i hb
      obtain ⟨c1, c2⟩ := h3 hb.1
      refine ⟨by dsimp only; omega, fun r hr => ?_, fun _ => ⟨c1, ?_⟩⟩
      · dsimp only at hr ⊢
        obtain ⟨a1, a2, a3⟩ := h2 r hr
        by_cases hrR : r = R - 1
        · subst hrR
          rw [un_s]
          refine ⟨by omega, by omega, fun i hi => ?_⟩
          by_cases hi2 : i < s (R - 1)
          · exact a3 i hi2
          · rw [show o (R - 1) + i = k by omega]; exact hz
        · rw [un_n hrR]; exact ⟨a1, by omega, a3⟩
      · dsimp only; rw [un_s]; omega
    · refine ⟨by dsimp only; omega, fun r hr => ?_, fun _ => ⟨by dsimp only; omega, ?_⟩⟩
      · dsimp only at hr ⊢
        by_cases hrR : r = R
        · subst hrR
          rw [un_s, un_s]
          refine ⟨by omega, by omega, fun i hi => ?_⟩
          rw [show i = 0 by omega]; exact hz
        · rw [un_n hrR, un_n hrR]
          obtain ⟨a1, a2, a3⟩ := h2 r (by omega)
          exact ⟨a1, by omega, a3⟩
      · dsimp only
        rw [show R + 1 - 1 = R by omega, un_s, un_s]
theorem cu_ok (z pc : Nat → Nat) : ∀ k, CI z (cu z pc k) k
  | 0 => ⟨Nat.le_refl 0, fun r hr => absurd hr (Nat.not_lt_zero r), fun q => by cases q⟩
  | k + 1 => CI_step (cu_ok z pc k) _
/-- signs, their pieces, how many -/
abbrev TK := (Nat → Nat) × (Nat → Nat) × Nat
def tk1 (T : TK) (x p : Nat) : TK := (un T.1 T.2.2 x, un T.2.1 T.2.2 p, T.2.2 + 1)
def cuT (T : TK) : CU := cu T.1 T.2.1 T.2.2
theorem cuT_1 (T : TK) (x p : Nat) : cuT (tk1 T x p) = cuS (cuT T) x (nwP T.2.1 T.2.2 p) T.2.2 := by
  unfold cuT tk1
  dsimp only
  rw [cu, un_s, un_s, cu_cong (z' := T.1) (pc' := T.2.1) T.2.2 (fun j hj => ⟨un_n (by omega), un_n (by omega)⟩), nwP_cong (pc' := T.2.1) (fun j hj => un_n (by omega))]
theorem hr_0 (c : Nat → Nat) : hr 0 c = 0 := by unfold hr mkd; simp
theorem put_next {s : Nat} {c c' : Nat → Nat} (hs : s < 100) (hc : ∀ i, i < s → c i < 32) (he : ∀ i, i < s → c' i = c i) (h1 : 1 ≤ c' s) (h2 : c' s < 32) : fX8_put (lN (hr s c)) (nI s) (nI (sg (c' s))) = some (lN (hr (s + 1) c')) := by
  by_cases h8 : s < 8
  · rw [e8_put (hr_lt hc) h1 h2 h8 (by rw [dg_hr hc h8, if_neg (by omega)])]
    refine congrArg (fun n => some (lN n)) ?_
    unfold setd
    exact mkd_cong (fun i hi => by
      rw [dg_hr hc hi]
      by_cases q : i = s
      · rw [if_pos q, if_pos (by omega), q]
      · rw [if_neg q]
        by_cases q2 : i < s
        · rw [if_pos q2, if_pos (by omega), he i q2]
        · rw [if_neg q2, if_neg (by omega)])
  · rw [e8_put_out _ (by omega) (by omega)]
    refine congrArg (fun n => some (lN n)) ?_
    exact mkd_cong (fun i hi => by rw [if_pos (by omega), if_pos (by omega), he i (by omega)])
/-- a run as the class holds it -/
def CRun (gs gst gl gp : Nat → Int32) (gh : Nat → Int64) (z pc o s a : Nat → Nat) (sz r : Nat) : Prop :=
  gst r = nI (a r) ∧ a r + s r ≤ sz ∧ gl r = nI (s r) ∧ gp r = nI (pc (o r)) ∧ gh r = lN (hr (s r) (fun i => cd (z (o r + i)))) ∧ ∀ i, i < s r → gs (a r + i) = nI (z (o r + i))
abbrev CS := Int32 × Int32 × Int32 × (Nat → Int32) × (Nat → Int32) × (Nat → Int32) × (Nat → Int32) × (Nat → Int64)
def CR (T : TK) (pcs : Nat) (c : CS) : Prop :=
  1 ≤ pcs ∧ (∀ j, j < T.2.2 → okz (T.1 j) ∧ T.2.1 j < pcs) ∧ ∃ sz a, c.1 = nI sz ∧ sz ≤ T.2.2 ∧ c.2.1 = nI (cuT T).1 ∧ c.2.2.1 = (if (cuT T).2.2.2 = true ∧ nwP T.2.1 T.2.2 (pcs - 1) = false then 1 else 0) ∧ ((cuT T).2.2.2 = true → a ((cuT T).1 - 1) + (cuT T).2.2.1 ((cuT T).1 - 1) = sz) ∧ ∀ r, r < (cuT T).1 → CRun c.2.2.2.1 c.2.2.2.2.1 c.2.2.2.2.2.1 c.2.2.2.2.2.2.1 c.2.2.2.2.2.2.2 T.1 T.2.1 (cuT T).2.1 (cuT T).2.2.1 a sz r
theorem vp_us {f : Nat → Int64} {k : Nat} {x : Int64} : vp_updL f k x k = x := if_pos rfl
theorem vp_un {f : Nat → Int64} {k j : Nat} {x : Int64} (h : j ≠ k) : vp_updL f k x j = f j := if_neg h
theorem CR_begin {T : TK} {pcs : Nat} {c : CS} (h : CR T pcs c) : CR T (pcs + 1) (c.1, c.2.1, 0, c.2.2.2) := by
  obtain ⟨h1, h2, sz, a, a1, a2, a3, a4, a5, a6⟩ := h
  refine ⟨by omega, fun j hj => ⟨(h2 j hj).1, by have := (h2 j hj).2; omega⟩, sz, a, a1, a2, a3, ?_, a5, a6⟩
  dsimp only
  rw [if_neg]
  rintro ⟨-, q⟩
  unfold nwP at q
  rw [decide_eq_false_iff_not] at q
  apply q
  by_cases hz : T.2.2 = 0
  · exact Or.inl hz
  · have := (h2 (T.2.2 - 1) (by omega)).2
    exact Or.inr (by omega)
theorem e1_lay33 {pcs x R sz S : Nat} {gs gst gl gp : Nat → Int32} {gh : Nat → Int64} {c c' : Nat → Nat} {b : Int32} {s : Nat} (hR : R < 13) (hsz : sz < 13) (hs : s < 100) (hl : gl R = nI s) (hh : gh R = lN (hr s c)) (hc : ∀ i, i < s → c i < 32) (he : ∀ i, i < s → c' i = c i) (h1 : 1 ≤ c' s) (h2 : c' s < 32) (hx : sg (c' s) = x) : fX1_laySign_33 (nI pcs) (nI x) (nI sz) (nI (R + 1)) b gs gst gl gp gh = some (nI (sz + 1), nI (R + 1), b, upd gs sz (nI x), gst, upd gl R (nI (s + 1)), gp, vp_updL gh R (lN (hr (s + 1) c'))) := by
  unfold fX1_laySign_33
  rw [nI_pred, gi (by omega) (by decide), gi (by omega) (by decide), gi (by omega) (by decide), nI_clamp (by omega), nI_clamp (by omega), hl, hh, ← hx, put_next hs hc he h1 h2, Option.bind_some, gi2 (by omega) (by decide), gi2 (by omega) (by decide), gi2 (by omega) (by decide), nI_1, nI_1]
theorem e1_laySign {T : TK} {pcs x : Nat} {c : CS} (h : CR T pcs c) (hx : okz x) (hS : T.2.2 ≤ 12) : ∃ c', fX1_laySign c.1 c.2.1 (nI pcs) c.2.2.1 c.2.2.2.1 c.2.2.2.2.1 c.2.2.2.2.2.1 c.2.2.2.2.2.2.1 c.2.2.2.2.2.2.2 (nI x) = some c' ∧ CR (tk1 T x (pcs - 1)) pcs c' := by
  obtain ⟨h1, h2, sz, a, a1, a2, a3, a4, a5, a6⟩ := h
  obtain ⟨v, vr, b, gs, gst, gl, gp, gh⟩ := c
  dsimp only at a1 a3 a4 a6 ⊢
  have hci := cu_ok T.1 T.2.1 T.2.2
  have hnx : ∀ j, j < (tk1 T x (pcs - 1)).2.2 → okz ((tk1 T x (pcs - 1)).1 j) ∧ (tk1 T x (pcs - 1)).2.1 j < pcs := fun j hj => by
    unfold tk1 at hj ⊢
    dsimp only at hj ⊢
    by_cases q : j = T.2.2
    · subst q; rw [un_s, un_s]; exact ⟨hx, by omega⟩
    · rw [un_n q, un_n q]; exact h2 j (by omega)
  have hx128 : x < 128 := by unfold okz at hx; omega
  have hcode : ∀ r, r < (cuT T).1 → ∀ i, i < (cuT T).2.2.1 r → cd (T.1 ((cuT T).2.1 r + i)) < 32 := fun r hr i hi => by
    obtain ⟨b1, b2, b3⟩ := hci.2.1 r hr
    exact (cd_ok (h2 _ (by have hi2 : i < (cu T.1 T.2.1 T.2.2).2.2.1 r := hi; show (cu T.1 T.2.1 T.2.2).2.1 r + i < T.2.2; omega)).1 (b3 i hi)).2.1
  have hcu := cuT_1 T x (pcs - 1)
  unfold CR
  rw [hcu]
  change CI T.1 (cuT T) T.2.2 at hci
  generalize cuT T = C at hci hcode a3 a4 a5 a6 ⊢
  obtain ⟨R, o, s, ir⟩ := C
  obtain ⟨c1, c2, c3⟩ := hci
  dsimp only at c1 c2 c3 a3 a4 a5 a6 hcode ⊢
  subst a1 a3
  unfold fX1_laySign cuS
  dsimp only
  have hzz : ∀ r, r < R → ∀ i, i < s r → un T.1 T.2.2 x (o r + i) = T.1 (o r + i) := fun r hr i hi => un_n (by have := (c2 r hr).2.1; omega)
  have hpp : ∀ r, r < R → un T.2.1 T.2.2 (pcs - 1) (o r) = T.2.1 (o r) := fun r hr => un_n (by have := c2 r hr; omega)
  have keep : ∀ r, r < R → CRun gs gst gl gp gh (un T.1 T.2.2 x) (un T.2.1 T.2.2 (pcs - 1)) o s a sz r := fun r hr => by
    obtain ⟨b1, b2, b3, b4, b5, b6⟩ := a6 r hr
    refine ⟨b1, b2, b3, by rw [hpp r hr]; exact b4, ?_, fun i hi => by rw [hzz r hr i hi]; exact b6 i hi⟩
    rw [b5]
    refine congrArg lN ?_
    exact mkd_cong (fun i _ => by
      by_cases q : i < s r
      · rw [if_pos q, if_pos q]; dsimp only; rw [hzz r hr i q]
      · rw [if_neg q, if_neg q])
  by_cases hz : x = 63
  · rw [if_pos (by rw [hz]; rfl), if_pos hz]
    refine ⟨_, rfl, h1, hnx, sz, a, rfl, by unfold tk1; dsimp only; omega, rfl, ?_, (fun q => by cases q), keep⟩
    dsimp only
    rw [if_neg (fun q => by cases q.1)]
  · have hcx := cd_ok hx hz
    rw [if_neg (show ¬ nI x = (63 : Int32) from fun q => hz ((nI_eq (b := 63) (by omega) (by decide)).mp q)), if_neg hz, if_pos (show nI sz < (13 : Int32) from nI_lt (b := 13) (by omega) (by decide))]
    have hnw : nwP (un T.2.1 T.2.2 (pcs - 1)) (T.2.2 + 1) (pcs - 1) = false := by
      unfold nwP
      rw [decide_eq_false_iff_not, show T.2.2 + 1 - 1 = T.2.2 by omega, un_s]
      omega
    by_cases hin : ir = true ∧ nwP T.2.1 T.2.2 (pcs - 1) = false
    · rw [if_pos hin] at a4 ⊢
      obtain ⟨d1, d2⟩ := c3 hin.1
      have d3 := a5 hin.1
      obtain ⟨R, rfl⟩ : ∃ R', R = R' + 1 := ⟨R - 1, by omega⟩
      rw [show R + 1 - 1 = R by omega] at d2 d3 ⊢
      obtain ⟨b1, b2, b3, b4, b5, b6⟩ := a6 R (by omega)
      rw [a4, if_neg (by decide), e1_lay33 (S := 0) (c := fun i => cd (T.1 (o R + i))) (c' := fun i => cd (un T.1 T.2.2 x (o R + i))) (s := s R) (by omega) (by omega) (by omega) b3 b5 (hcode R (by omega)) (fun i hi => by rw [hzz R (by omega) i hi]) (by rw [d2, un_s]; exact hcx.1) (by rw [d2, un_s]; exact hcx.2.1) (by rw [d2, un_s]; exact hcx.2.2)]
      refine ⟨_, rfl, h1, hnx, sz + 1, a, rfl, by unfold tk1; dsimp only; omega, rfl, ?_, fun _ => ?_, fun r hr => ?_⟩
      · show (1 : Int32) = _
        rw [if_pos ⟨rfl, hnw⟩]
      · dsimp only; rw [un_s]; omega
      · by_cases q : r = R
        · subst q
          refine ⟨b1, by dsimp only; rw [un_s]; omega, by dsimp only; rw [pk_us, un_s], ?_, by dsimp only; rw [vp_us, un_s]; rfl, fun i hi => ?_⟩
          · exact (keep r hr).2.2.2.1
          · dsimp only at hi ⊢
            rw [un_s] at hi
            by_cases qi : i = s r
            · rw [qi, d3, pk_us]; show nI x = nI (un T.1 T.2.2 x (o r + s r)); rw [d2, un_s]
            · rw [pk_un (by omega)]
              exact (keep r hr).2.2.2.2.2 i (by omega)
        · obtain ⟨k1, k2, k3, k4, k5, k6⟩ := keep r hr
          refine ⟨k1, by dsimp only; rw [un_n q]; omega, by dsimp only; rw [pk_un q, un_n q]; exact k3, k4, by dsimp only; rw [vp_un q, un_n q]; exact k5, fun i hi => ?_⟩
          dsimp only at hi ⊢
          rw [un_n q] at hi
          rw [pk_un (by omega)]
          exact k6 i hi
    · rw [if_neg hin] at a4 ⊢
      rw [a4, if_pos rfl]
      unfold fX1_beginRun
      have e1 : nI pcs - 1 = nI (pcs - 1) := pk_sub (b := 1) h1
      rw [gi (by omega) (by decide), gi (by omega) (by decide), gi (by omega) (by decide), gi (by omega) (by decide), nI_clamp (by omega), nI_1, e1, Option.bind_some]
      dsimp only
      rw [e1_lay33 (S := 0) (c := fun i => 0) (c' := fun i => cd (un T.1 T.2.2 x (T.2.2 + i))) (s := 0) (by omega) (by omega) (by omega) (by rw [pk_us]; rfl) (by rw [vp_us, hr_0]; rfl) (fun i hi => by omega) (fun i hi => by omega) (by rw [Nat.add_zero, un_s]; exact hcx.1) (by rw [Nat.add_zero, un_s]; exact hcx.2.1) (by rw [Nat.add_zero, un_s]; exact hcx.2.2)]
      refine ⟨_, rfl, h1, hnx, sz + 1, un a R sz, rfl, by unfold tk1; dsimp only; omega, rfl, ?_, fun _ => ?_, fun r hr => ?_⟩
      · show (1 : Int32) = _
        rw [if_pos ⟨rfl, hnw⟩]
      · (try dsimp only); rw [show R + 1 - 1 = R by omega, un_s, un_s]
      · by_cases q : r = R
        · subst q
          refine ⟨by (try dsimp only); rw [pk_us, un_s], by (try dsimp only); rw [un_s, un_s]; omega, by (try dsimp only); rw [pk_us, un_s], ?_, by (try dsimp only); rw [vp_us, un_s, un_s]; rfl, fun i hi => ?_⟩
          · dsimp only; rw [pk_us, un_s]; show _ = nI (un T.2.1 T.2.2 (pcs - 1) T.2.2); rw [un_s]
          · dsimp only at hi ⊢
            rw [un_s] at hi
            rw [show i = 0 by omega, un_s, un_s, Nat.add_zero, Nat.add_zero, pk_us]; show _ = nI (un T.1 T.2.2 x T.2.2); rw [un_s]
        · (try dsimp only at hr)
          obtain ⟨k1, k2, k3, k4, k5, k6⟩ := keep r (by omega)
          refine ⟨by (try dsimp only); rw [pk_un q, un_n q]; exact k1, by (try dsimp only); rw [un_n q, un_n q]; omega, by (try dsimp only); rw [pk_un q, pk_un q, un_n q]; exact k3, by (try dsimp only); rw [pk_un q, un_n q]; exact k4, by (try dsimp only); rw [vp_un q, vp_un q, un_n q, un_n q]; exact k5, fun i hi => ?_⟩
          dsimp only at hi ⊢
          rw [un_n q] at hi
          rw [un_n q, un_n q, pk_un (by omega)]
          exact k6 i hi
