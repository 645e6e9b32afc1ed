/-! ===== images ===== -/
theorem byte_fits : ∀ b, b < 256 → fits .byte (.int ((nI b).toInt8.toInt32)) = true := by decide +kernel
theorem e10_copy {n : Nat} {v : Int32} {g0 g1 : Nat → Int32} {t : Nat → Nat} (hn : n ≤ 400) (hT : TC g1 t n) : ∃ g', fX10_copy v g0 (nI n) g1 = some (nI n, g') ∧ TC g' t n := by
  unfold fX10_copy
  rw [sb_cl0, nI_clamp (by omega), if_neg]
  · refine ⟨_, rfl, fun i hi => ?_⟩
    rw [pk_cpy_in (by omega) (by omega), show 0 + (i - 0) = i by omega]
    exact hT i hi
  · rintro (h | h | h | h | h | h)
    · exact absurd h (by decide)
    · exact absurd h (by decide)
    · exact nI_pos (by omega) h
    · omega
    · omega
    · apply h
      intro i hi
      rw [Nat.zero_add, (hT i hi).2]
      exact byte_fits _ (hT i hi).1
theorem e5_copy {P : Nat} {v : Int32} {g0 g1 : Nat → Int32} {q : Nat → Nat} (hP : P ≤ 12) (hS : SA g1 q P) : ∃ g', fX5_copy v g0 (nI P) g1 = some (nI P, g') ∧ SA g' q P := by
  unfold fX5_copy
  rw [sb_cl0, nI_clamp (by omega), if_neg]
  · refine ⟨_, rfl, fun i hi => ?_⟩
    rw [pk_cpy_in (by omega) (by omega), show 0 + (i - 0) = i by omega]
    exact hS i hi
  · rintro (h | h | h | h | h)
    · exact absurd h (by decide)
    · exact absurd h (by decide)
    · exact nI_pos (by omega) h
    · omega
    · omega
/-- State.copy -/
theorem e9_copy {x1 x2 x3 x4 x5 x6 x7 : Int32} {y1 y2 : Nat → Int32} {z1 z2 : Nat → Int64} {ed ts ds cs ps fk fp : Int32} {gt gp : Nat → Int32} {gd gc : Nat → Int64} {m e P n : Nat} {d fl ew q t : Nat → Nat} (hS : StN m d e fl ew q P n) (hC : StC ed ts gt ds gd cs gc ps gp m d e fl ew q P t n) (hF : fk = 0 → fp = -1) : ∃ gt' gd' gc' gp', fX9_copy x1 x2 y1 x3 z1 x4 z2 x5 y2 x6 x7 ed ts gt ds gd cs gc ps gp fk fp = some (ed, ts, gt', ds, gd', cs, gc', ps, gp', fk, fp) ∧ StC ed ts gt' ds gd' cs gc' ps gp' m d e fl ew q P t n := by
  obtain ⟨hD, he, hB, hq, hn⟩ := hS
  obtain ⟨rfl, rfl, c3, rfl, c5, rfl, c7, rfl, c9⟩ := hC
  have h40 := hD.1
  have h41 := (cm_ok hD hB e (Nat.le_refl _)).1
  obtain ⟨gt', a1, a2⟩ := e10_copy (v := x2) (g0 := y1) hn c3
  obtain ⟨gd', b1, b2⟩ := e7_copy (n0 := 40) (n1 := 40) (v0 := x3) (g0 := z1) c5 h40 h40 (by omega)
  obtain ⟨gc', d1, d2⟩ := e7_copy (n0 := 40) (n1 := 40) (v0 := x4) (g0 := z2) c7 h41 h41 (by omega)
  obtain ⟨gp', e1, e2⟩ := e5_copy (v := x5) (g0 := y2) hq.2.1 c9
  unfold fX9_copy fX2_set fX2_set_15
  rw [a1, Option.bind_some, b1, Option.bind_some, d1, Option.bind_some, e1, Option.bind_some]
  refine ⟨gt', gd', gc', gp', ?_, rfl, rfl, a2, rfl, b2, rfl, d2, rfl, e2⟩
  by_cases hk : fk = 0
  · rw [if_pos hk, Option.bind_some, hF hk]
  · rw [if_neg hk, Option.bind_some]
theorem im_base (k : Nat) : (2690 : Int32) + 846 * nI k = nI (2690 + 846 * k) := by
  rw [show (846 : Int32) * nI k = nI (846 * k) from pk_mul 846 k]; exact nI_add 2690 _
theorem e12_image_32 {N k b : Nat} {tp fk fp : Int32} {h im : Nat → Int32} (hk : k < 3) (hb : b = 2690 + 846 * k) : ∀ K i f, i ≤ 400 → 401 ≤ K + i → (∀ j, j < i → f (b + 443 + j) = h j) → ∃ f', fX12_image_32 N tp fk fp h (nI k) K (nI b) (nI i) f im = some (1, f', upd im k 1) ∧ (∀ j, j < 400 → f' (b + 443 + j) = h j) ∧ f' (b + 843) = tp ∧ f' (b + 844) = fk ∧ f' (b + 845) = fp ∧ Out f f' (b + 443) 403 := by
  intro K
  induction K with
  | zero => intro i f h1 h2; omega
  | succ K ih =>
    intro i f h1 h2 h3
    rw [fX12_image_32]
    have e1 : nI b + 443 = nI (b + 443) := nI_add b 443
    by_cases hi : 400 ≤ i
    · have e2 : nI (b + 443) + 400 = nI (b + 843) := nI_add (b + 443) 400
      have e3 : nI (b + 843) + 1 = nI (b + 844) := nI_add (b + 843) 1
      have e4 : nI (b + 843) + 2 = nI (b + 845) := nI_add (b + 843) 2
      rw [if_pos (show (400 : Int32) ≤ nI i from nI_le (a := 400) hi (by omega)), e1, e2, e3, e4, gi (by omega) (by decide), gi (by omega) (by decide), gi (by omega) (by decide), gi (by omega) (by decide), nI_clamp (by omega), nI_clamp (by omega), nI_clamp (by omega), nI_clamp (by omega)]
      refine ⟨_, rfl, fun j hj => ?_, ?_, ?_, pk_us, (Out.upd.wide (by omega) (by omega)).trans ((Out.upd.wide (by omega) (by omega)).trans (Out.upd.wide (by omega) (by omega)))⟩
      · rw [pk_un (by omega), pk_un (by omega), pk_un (by omega)]; exact h3 j (by omega)
      · rw [pk_un (by omega), pk_un (by omega), pk_us]
      · rw [pk_un (by omega), pk_us]
    · rw [if_neg (show ¬ (400 : Int32) ≤ nI i from nI_ge (b := 400) (by omega) (by omega)), e1, nI_add, gi (by omega) (by decide), gi (by omega) (by decide), nI_clamp (by omega), nI_clamp (by omega), nI_1]
      obtain ⟨f', a1, a2, a3, a4, a5, a6⟩ := ih (i + 1) (upd f (b + 443 + i) (h i)) (by omega) (by omega) (fun j hj => by
        by_cases e : j = i
        · rw [e, pk_us]
        · rw [pk_un (by omega)]; exact h3 j (by omega))
      exact ⟨f', a1, a2, a3, a4, a5, (Out.upd.wide (by omega) (by omega)).trans a6⟩
theorem e12_image {N k b m e P n : Nat} {tp fk fp : Int32} {f h im : Nat → Int32} {d fl ew q t : Nat → Nat} (hN : 1000 ≤ N) (hk : k < 3) (hb : b = 2690 + 846 * k) (hS : StN m d e fl ew q P n) (hF : StF f 0 m d e fl ew q P) (hM : TM h t n) : ∃ f', fX12_image N tp fk fp f h im (nI k) = some (1, f', upd im k 1) ∧ StF f' b m d e fl ew q P ∧ TM (fun i => f' (b + 443 + i)) t n ∧ f' (b + 843) = tp ∧ f' (b + 844) = fk ∧ f' (b + 845) = fp ∧ Out f f' b 846 := by
  unfold fX12_image
  rw [show fX12_isIn (nI k) 0 2 = some (if 0 ≤ k ∧ k ≤ 2 then 1 else 0) from e12_isIn (lo := 0) (hi := 2) (by omega) (by decide) (by decide), Option.bind_some, if_pos (show 0 ≤ k ∧ k ≤ 2 from ⟨Nat.zero_le _, by omega⟩), if_neg (show ¬ (1 : Int32) = 0 by decide), im_base, ← hb, show fX12_copies N f 0 (nI b) 443 = _ from e12_copies (s := 0) (t := b) (c := 443) hN (by decide) (by decide) (by omega) (Or.inr (by omega)), Option.bind_some]
  have hO1 : Out f (va_cpy f f 0 b 443) b 443 := Out.cpy
  have hin : ∀ j, j < 443 → va_cpy f f 0 b 443 (b + j) = f (0 + j) := fun j hj => by rw [pk_cpy_in (by omega) (by omega)]; congr 1; omega
  generalize va_cpy f f 0 b 443 = f1 at hO1 hin
  obtain ⟨f', a1, a2, a3, a4, a5, a6⟩ := e12_image_32 (N := N) (tp := tp) (fk := fk) (fp := fp) (h := h) (im := im) hk hb N 0 f1 (Nat.zero_le _) (by omega) (fun j hj => absurd hj (Nat.not_lt_zero j))
  refine ⟨f', a1, StF_move hS (fun j hj => by rw [a6 (b + j) (by omega), hin j hj]) hF, fun i hi => ?_, a3, a4, a5, (hO1.wide (by omega) (by omega)).trans (a6.wide (by omega) (by omega))⟩
  show f' (b + 443 + i) = _
  rw [a2 i (by have := hS.2.2.2.2; omega)]; exact hM i hi
theorem e12_again_41 {N k b : Nat} {v0 v1 v2 v3 : Int32} {f im : Nat → Int32} (hk : k < 3) (hb : b = 2690 + 846 * k) : ∀ K i h, i ≤ 400 → 401 ≤ K + i → (∀ j, j < i → h j = f (b + 443 + j)) → ∃ h', fX12_again_41 N im (nI k) K (nI b) (nI i) v0 v1 v2 v3 f h = some (1, f (b + 843), f (b + 844), f (b + 845), 0, f, h') ∧ ∀ j, j < 400 → h' j = f (b + 443 + j) := by
  intro K
  induction K with
  | zero => intro i h h1 h2; omega
  | succ K ih =>
    intro i h h1 h2 h3
    rw [fX12_again_41]
    have e1 : nI b + 443 = nI (b + 443) := nI_add b 443
    by_cases hi : 400 ≤ i
    · have e2 : nI (b + 443) + 400 = nI (b + 843) := nI_add (b + 443) 400
      have e3 : nI (b + 843) + 1 = nI (b + 844) := nI_add (b + 843) 1
      have e4 : nI (b + 843) + 2 = nI (b + 845) := nI_add (b + 843) 2
      rw [if_pos (show (400 : Int32) ≤ nI i from nI_le (a := 400) hi (by omega)), e1, e2, e3, e4, gi (by omega) (by decide), gi (by omega) (by decide), gi (by omega) (by decide), nI_clamp (by omega), nI_clamp (by omega), nI_clamp (by omega)]
      exact ⟨h, rfl, fun j hj => h3 j (by omega)⟩
    · rw [if_neg (show ¬ (400 : Int32) ≤ nI i from nI_ge (b := 400) (by omega) (by omega)), e1, nI_add, gi (by omega) (by decide), gi (by omega) (by decide), nI_clamp (by omega), nI_clamp (by omega), nI_1]
      exact ih (i + 1) (upd h i (f (b + 443 + i))) (by omega) (by omega) (fun j hj => by
        by_cases e : j = i
        · rw [e, pk_us]
        · rw [pk_un (by omega)]; exact h3 j (by omega))
theorem e12_again {N k b m e P n : Nat} {v0 v1 v2 v3 : Int32} {f h im : Nat → Int32} {d fl ew q t : Nat → Nat} (hN : 1000 ≤ N) (hk : k < 3) (hb : b = 2690 + 846 * k) (hi : ¬ im k = 0) (hS : StN m d e fl ew q P n) (hF : StF f b m d e fl ew q P) (hM : TM (fun i => f (b + 443 + i)) t n) : ∃ f' h', fX12_again N v0 v1 v2 v3 f h im (nI k) = some (1, f (b + 843), f (b + 844), f (b + 845), 0, f', h') ∧ StF f' 0 m d e fl ew q P ∧ TM h' t n ∧ Out f f' 0 443 := by
  unfold fX12_again
  rw [show fX12_isIn (nI k) 0 2 = some (if 0 ≤ k ∧ k ≤ 2 then 1 else 0) from e12_isIn (lo := 0) (hi := 2) (by omega) (by decide) (by decide), Option.bind_some, if_pos (show 0 ≤ k ∧ k ≤ 2 from ⟨Nat.zero_le _, by omega⟩), if_neg (show ¬ (1 : Int32) = 0 by decide), gi (by omega) (by decide), nI_clamp (by omega), if_neg hi, im_base, ← hb, show fX12_copies N f (nI b) 0 443 = _ from e12_copies (s := b) (t := 0) (c := 443) hN (by decide) (by omega) (by decide) (Or.inl (by omega)), Option.bind_some]
  have hO1 : Out f (va_cpy f f b 0 443) 0 443 := Out.cpy
  have hin : ∀ j, j < 443 → va_cpy f f b 0 443 (0 + j) = f (b + j) := fun j hj => by rw [pk_cpy_in (by omega) (by omega)]; congr 1; omega
  generalize va_cpy f f b 0 443 = f1 at hO1 hin
  obtain ⟨h', a1, a2⟩ := e12_again_41 (N := N) (v0 := v0) (v1 := v1) (v2 := v2) (v3 := v3) (f := f1) (im := im) hk hb N 0 h (Nat.zero_le _) (by omega) (fun j hj => absurd hj (Nat.not_lt_zero j))
  rw [hO1 (b + 843) (by omega), hO1 (b + 844) (by omega), hO1 (b + 845) (by omega)] at a1
  exact ⟨f1, h', a1, StF_move hS hin hF, fun i hi => by rw [a2 i (by have := hS.2.2.2.2; omega), hO1 _ (by omega)]; exact hM i hi, hO1⟩
theorem e12_image_out {N : Nat} {tp fk fp x : Int32} {f h im : Nat → Int32} (hx : x < 0 ∨ 3 ≤ x) : fX12_image N tp fk fp f h im x = some (0, f, im) := by
  unfold fX12_image fX12_isIn
  by_cases h0 : x < 0
  · rw [if_pos h0, Option.bind_some, if_pos rfl]
  · have h3 := hx.resolve_left h0
    obtain ⟨k, hk, rfl⟩ := nI_of h0
    have h3k : 3 ≤ k := by
      refine Classical.byContradiction fun z => ?_
      exact nI_ge (a := k) (b := 3) (by omega) (by omega) h3
    rw [if_neg h0, if_pos (show (2 : Int32) < nI k from nI_lt (a := 2) (by omega) hk), Option.bind_some, if_pos rfl]
theorem e12_again_out {N : Nat} {v0 v1 v2 v3 x : Int32} {f h im : Nat → Int32} (hx : x < 0 ∨ 3 ≤ x) : fX12_again N v0 v1 v2 v3 f h im x = some (0, v0, v1, v2, v3, f, h) := by
  unfold fX12_again fX12_isIn
  by_cases h0 : x < 0
  · rw [if_pos h0, Option.bind_some, if_pos rfl]
  · have h3 := hx.resolve_left h0
    obtain ⟨k, hk, rfl⟩ := nI_of h0
    have h3k : 3 ≤ k := by
      refine Classical.byContradiction fun z => ?_
      exact nI_ge (a := k) (b := 3) (by omega) (by omega) h3
    rw [if_neg h0, if_pos (show (2 : Int32) < nI k from nI_lt (a := 2) (by omega) hk), Option.bind_some, if_pos rfl]
