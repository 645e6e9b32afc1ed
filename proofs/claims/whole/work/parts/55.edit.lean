/-! ===== an edit ===== -/
theorem e6_onlyWord {N n : Nat} {g : Nat → Int32} {t : Nat → Nat} (hN : 1000 ≤ N) (hn : n ≤ 400) (hT : TC g t n) : fX6_onlyWord N (nI n) g = some (lN (if lf t n 0 = n ∧ n ≤ 7 then Wd t 0 n else 0)) := by
  have hle := lf_le t n 0
  unfold fX6_onlyWord
  rw [show fX6_lettersFrom N (nI n) g 0 = _ from e6_lettersFrom (p := 0) hN hn hT (Nat.zero_le _), Option.bind_some]
  unfold fX10_size fX6_onlyWord_24 fX6_onlyWord_25
  rw [Option.bind_some]
  by_cases h1 : lf t n 0 = n
  · rw [if_pos (by rw [h1]), h1]
    by_cases h7 : n ≤ 7
    · rw [if_neg (show ¬ (7 : Int32) < nI n from nI_nlt (a := 7) h7 (by decide)), if_neg (by decide), show fX6_rowFrom N (nI n) g 0 (nI n) = _ from e6_rowFrom (p := 0) hN h7 hn hT (by omega) (fun i hi => lf_is (n := n) (by omega)), Option.bind_some, if_pos ⟨rfl, h7⟩]
    · rw [if_pos (show (7 : Int32) < nI n from nI_lt (a := 7) (by omega) (by omega)), if_pos rfl, if_neg (fun z => h7 z.2)]; rfl
  · rw [if_neg (fun z => h1 ((nI_eq (by omega) (by omega)).mp z)), if_pos rfl, if_neg (fun z => h1 z.1)]; rfl
/-- the reference: is the tape a word -/
theorem e12_edit_21 {N n : Nat} {p1 v0 : Int32} {f h : Nat → Int32} {t : Nat → Nat} (hn : n ≤ 400) (hb : ∀ i, i < n → t i < 256) (hM : TM h t n) : ∀ K i b, i ≤ n → n + 1 ≤ K + i → ∃ K', fX12_edit_21 N h p1 K (nI n) (if b then 1 else 0) (nI i) v0 f = fX12_edit_21 N h p1 (K' + 1) (nI n) (if (b && decide (∀ j, j < n → i ≤ j → isL (t j) = true)) then 1 else 0) (nI n) v0 f := by
  intro K
  induction K with
  | zero => intro i b h1 h2; omega
  | succ K ih =>
    intro i b h1 h2
    by_cases hi : n ≤ i
    · have e : i = n := by omega
      subst e
      have : decide (∀ j, j < i → i ≤ j → isL (t j) = true) = true := by
        rw [decide_eq_true_eq]; intro j j1 j2; omega
      rw [this, Bool.and_true]
      exact ⟨K, rfl⟩
    · rw [fX12_edit_21, if_neg (nI_ge (by omega) (by omega))]
      have hstep : decide (∀ j, j < n → i ≤ j → isL (t j) = true) = (isL (t i) && decide (∀ j, j < n → i + 1 ≤ j → isL (t j) = true)) := by
        rw [Bool.eq_iff_iff]
        simp only [Bool.and_eq_true, decide_eq_true_eq]
        constructor
        · intro q; exact ⟨q i (by omega) (by omega), fun j j1 j2 => q j j1 (by omega)⟩
        · rintro ⟨q1, q2⟩ j j1 j2
          by_cases e : j = i
          · rw [e]; exact q1
          · exact q2 j j1 (by omega)
      cases b with
      | false =>
        obtain ⟨K', e⟩ := ih (i + 1) false (by omega) (by omega)
        refine ⟨K', ?_⟩
        rw [if_pos (ib0.mpr rfl), nI_1]
        exact e
      | true =>
        rw [if_neg (by decide), gi (by omega) (by decide), nI_clamp (by omega), hM i (by omega), e12_isLetter (hb i (by omega)), Option.bind_some, nI_1, hstep]
        cases hl : isL (t i) with
        | false =>
          obtain ⟨K', e⟩ := ih (i + 1) false (by omega) (by omega)
          refine ⟨K', ?_⟩
          rw [if_pos (ib0.mpr rfl)]
          exact e
        | true =>
          obtain ⟨K', e⟩ := ih (i + 1) true (by omega) (by omega)
          refine ⟨K', ?_⟩
          rw [if_neg (by decide)]
          exact e
theorem lf_all {t : Nat → Nat} {n : Nat} : lf t n 0 = n ↔ ∀ j, j < n → 0 ≤ j → isL (t j) = true := by
  constructor
  · intro h j hj _
    have := lf_is (t := t) (n := n) (p := 0) (i := j) (by omega)
    rw [Nat.zero_add] at this; exact this
  · intro h
    rcases lf_end (t := t) (n := n) (p := 0) (Nat.zero_le _) with q | q
    · omega
    · refine Classical.byContradiction fun z => ?_
      have hle := lf_le t n 0
      rw [h _ (by omega) (Nat.zero_le _)] at q; cases q
theorem cm_s {m : Nat} {d fl ew : Nat → Nat} {e : Nat} {a w : Nat} : cm m d (un fl e a) (un ew e w) e = cm m d fl ew e := cm_cong e (fun j hj => ⟨un_n (by omega), un_n (by omega)⟩)
theorem Bat_s {m : Nat} {d fl ew : Nat → Nat} {e a w : Nat} (hB : Bat m d fl ew e) (hw : isW w) (ha : a ≤ 1) (h1 : a = 1 → ∃ i, i < (cm m d fl ew e).1 ∧ (cm m d fl ew e).2 i = w) (h0 : a = 0 → (cm m d fl ew e).1 < 40 ∧ ¬ ∃ i, i < (cm m d fl ew e).1 ∧ (cm m d fl ew e).2 i = w) : Bat m d (un fl e a) (un ew e w) (e + 1) := fun k hk => by
  by_cases q : k = e
  · subst q
    rw [un_s, un_s, cm_s]
    exact ⟨hw, ha, h1, h0⟩
  · rw [un_n q, un_n q, cm_cong (fl' := fl) (ew' := ew) k (fun j hj => ⟨un_n (by omega), un_n (by omega)⟩)]
    exact hB k (by omega)
/-- an edit is set down -/
theorem e12_edit_161 {N e a w m : Nat} {p1 v0 : Int32} {f h : Nat → Int32} {d fl ew : Nat → Nat} (hN : 1000 ≤ N) (he : e < 12) (hww : isW w) (hW : WA f 1085 w) (hB : Bat m d fl ew e) (hE : EA f fl ew e) (hD : Dic m d) (hA : DA f 0 d m) : ∃ f', fX12_edit_161 N h p1 (nI (322 + 9 * e)) (nI a) (nI (322 + 9 * e)) v0 f = some (nI (e + 1), v0, f') ∧ EA f' (un fl e a) (un ew e w) (e + 1) ∧ DA f' 0 d m ∧ Out f f' 321 109 := by
  have h40 := hD.1
  unfold fX12_edit_161
  have e1 : (321 : Int32) = nI 321 := rfl
  rw [gi (by omega) (by decide), nI_clamp (by omega), nI_1, show fX12_copies N (upd f (322 + 9 * e) (nI a)) 1085 (nI (322 + 9 * e + 1)) 8 = _ from e12_copies (s := 1085) (t := 322 + 9 * e + 1) (c := 8) hN (by decide) (by decide) (by omega) (Or.inl (by omega)), Option.bind_some, e1, gi (by decide) (by decide), gi (by decide) (by decide), gi (by decide) (by decide), nI_clamp (by decide), pk_us]
  have hO1 : Out f (va_cpy (upd f (322 + 9 * e) (nI a)) (upd f (322 + 9 * e) (nI a)) 1085 (322 + 9 * e + 1) 8) (322 + 9 * e) 9 := (Out.upd.wide (by omega) (by omega)).trans (Out.cpy.wide (by omega) (by omega))
  generalize hg : va_cpy (upd f (322 + 9 * e) (nI a)) (upd f (322 + 9 * e) (nI a)) 1085 (322 + 9 * e + 1) 8 = f1 at hO1
  have hf321 : f1 321 = nI e := by rw [hO1 321 (by omega), hE.1]
  have hfl : f1 (322 + 9 * e) = nI a := by rw [← hg, pk_cpy_out (by omega), pk_us]
  have hWn : WA f1 (323 + 9 * e) w := by
    refine WA_cong (f := f) (x := 1085) hww.2.2.1 (fun i hi => ?_) hW
    rw [← hg, pk_cpy_in (by omega) (by omega), pk_un (by omega)]
    congr 1; omega
  have hE1 : ∀ k, k < e → f1 (322 + 9 * k) = nI (fl k) ∧ WA f1 (323 + 9 * k) (ew k) := fun k hk => ⟨by rw [hO1 _ (by omega)]; exact (hE.2 k hk).1, hO1.WA (hB k hk).1.2.2.1 (by omega) (hE.2 k hk).2⟩
  have hO2 : Out f1 (upd f1 321 (nI (e + 1))) 321 1 := Out.upd
  rw [hf321, nI_1]
  refine ⟨upd f1 321 (nI (e + 1)), rfl, ⟨pk_us, fun k hk => ?_⟩, ?_, (hO1.wide (by omega) (by omega)).trans (hO2.wide (by omega) (by omega))⟩
  · by_cases q : k = e
    · subst q
      rw [un_s, un_s]
      exact ⟨by rw [pk_un (by omega)]; exact hfl, hO2.WA hww.2.2.1 (by omega) hWn⟩
    · rw [un_n q, un_n q]
      obtain ⟨x1, x2⟩ := hE1 k (by omega)
      exact ⟨by rw [pk_un (by omega)]; exact x1, hO2.WA (hB k (by omega)).1.2.2.1 (by omega) x2⟩
  · exact hO2.DA hD.2.2 (by omega) (hO1.DA hD.2.2 (by omega) hA)
/-- promise 7 -/
theorem op_edit {N n m e : Nat} {p1 : Int32} {g h f : Nat → Int32} {gc : Nat → Int64} {t d fl ew : Nat → Nat} (hN : 1000 ≤ N) (hn : n ≤ 400) (hT : TC g t n) (hM : TM h t n) (hD : Dic m d) (hA : DA f 0 d m) (he : e ≤ 12) (hB : Bat m d fl ew e) (hE : EA f fl ew e) (hR : Ris gc (cm m d fl ew e).2 (cm m d fl ew e).1) (hp : p1 = 0 ∨ p1 = 1) : ∃ r e' fl' ew' gc' f', fX11_edit N (nI e) (nI n) g (nI (cm m d fl ew e).1) gc p1 = some (r, nI e', 0, nI (cm m d fl' ew' e').1, gc') ∧ fX12_edit N (nI n) f h p1 = some (r, 0, f') ∧ e' ≤ 12 ∧ Bat m d fl' ew' e' ∧ EA f' fl' ew' e' ∧ Ris gc' (cm m d fl' ew' e').2 (cm m d fl' ew' e').1 ∧ DA f' 0 d m ∧ ∀ j, (430 ≤ j ∧ j < 443) ∨ 1093 ≤ j → f' j = f j := by
  have h40 := hD.1
  have hb : ∀ i, i < n → t i < 256 := fun i hi => (hT i hi).1
  have hsh : fX10_shorten (nI n) 0 = some (1, 0) := by
    unfold fX10_shorten
    rw [if_neg (show ¬ (0 : Int32) < 0 by decide), if_pos (show (0 : Int32) ≤ nI n from nI_le (a := 0) (Nat.zero_le _) (by omega))]
  have hC := cm_ok hD hB e (Nat.le_refl _)
  have hc40 := hC.1
  unfold fX11_edit fX12_edit
  rw [e6_onlyWord hN hn hT, Option.bind_some, hsh, Option.bind_some, show fX12_isIn (nI n) 1 7 = some (if 1 ≤ n ∧ n ≤ 7 then 1 else 0) from e12_isIn (lo := 1) (hi := 7) (by omega) (by decide) (by decide), Option.bind_some]
  dsimp only
  have hbb : (if 1 ≤ n ∧ n ≤ 7 then (1 : Int32) else 0) = if decide (1 ≤ n ∧ n ≤ 7) then 1 else 0 := by
    by_cases q : 1 ≤ n ∧ n ≤ 7
    · rw [if_pos q, decide_eq_true q]; rfl
    · rw [if_neg q, decide_eq_false q]; rfl
  obtain ⟨K', hm⟩ := e12_edit_21 (N := N) (p1 := p1) (v0 := 0) (f := f) hn hb hM N 0 (decide (1 ≤ n ∧ n ≤ 7)) (Nat.zero_le _) (by omega)
  rw [hbb, show fX12_edit_21 N h p1 N (nI n) (if decide (1 ≤ n ∧ n ≤ 7) then 1 else 0) 0 0 f = _ from hm, fX12_edit_21, if_pos (nI_le (Nat.le_refl _) (by omega))]
  by_cases hw : (1 ≤ n ∧ n ≤ 7) ∧ lf t n 0 = n
  · obtain ⟨⟨n1, n7⟩, hlf⟩ := hw
    have hlet : ∀ i, i < n → isL (t (0 + i)) = true := fun i hi => lf_is (n := n) (by omega)
    obtain ⟨wW, -, -⟩ := Wd_ok n1 n7 hlet
    have hx62 : Wd t 0 n < 4611686018427387904 := by have := wW.1; omega
    have hnz : ¬ lg_cmp (lN (Wd t 0 n)) 0 = 0 := by
      rw [lg_cmp_eq]
      intro z
      have h0 : Wd t 0 n = 0 := (pk_lEQ (b := 0) (by omega) (by decide)).mp z
      have := wW.2.1
      rw [h0] at this
      exact absurd this (by decide)
    have htrue : (decide (1 ≤ n ∧ n ≤ 7) && decide (∀ j, j < n → 0 ≤ j → isL (t j) = true)) = true := by
      rw [Bool.and_eq_true, decide_eq_true_eq, decide_eq_true_eq]
      exact ⟨⟨n1, n7⟩, lf_all.mp hlf⟩
    rw [if_pos (show lf t n 0 = n ∧ n ≤ 7 from ⟨hlf, n7⟩), htrue, if_neg hnz, if_neg (show ¬ (if true = true then (1 : Int32) else 0) = 0 by decide), show (321 : Int32) = nI 321 from rfl, gi (by decide) (by decide), nI_clamp (by decide), hE.1]
    by_cases h12 : e = 12
    · rw [if_pos (show nI e = (12 : Int32) by rw [h12]; rfl), if_neg (show ¬ nI e < (12 : Int32) from nI_nlt (b := 12) (by omega) (by omega))]
      exact ⟨-1, e, fl, ew, gc, f, rfl, rfl, he, hB, hE, hR, hA, fun j _ => rfl⟩
    · rw [if_neg (show ¬ nI e = (12 : Int32) from fun z => h12 ((nI_eq (b := 12) (by omega) (by decide)).mp z)), if_pos (show nI e < (12 : Int32) from nI_lt (b := 12) (by omega) (by decide))]
      obtain ⟨f1, a1, a2, a3⟩ := e12_laysWord (f := f) (a := 1085) hN n1 n7 hn hM (show 0 + n ≤ n by omega) hlet (by decide)
      have hA1 : DA f1 0 d m := a3.DA hD.2.2 (Or.inl (by omega)) hA
      have hE1 : EA f1 fl ew e := hE.out a3 (fun k hk => (hB k hk).1) (Or.inl (by omega))
      obtain ⟨f2, b1, b2, b3⟩ := e12_laysComing hN hD hB he hA1 hE1
      have hA2 : DA f2 0 d m := b3.DA hD.2.2 (Or.inl (by omega)) hA1
      have hE2 : EA f2 fl ew e := hE1.out b3 (fun k hk => (hB k hk).1) (Or.inl (by omega))
      have hW2 : WA f2 1085 (Wd t 0 n) := b3.WA wW.2.2.1 (by omega) a2
      have hno := e12_numberOf (b := 443) (x := 1085) hN b2 hW2 wW hC.2.2 hC.2.1 (by omega) (by omega) hc40
      have hO12 : ∀ j, (j < 443 ∨ 1093 ≤ j) → f2 j = f j := fun j hj => by rw [b3 j (by omega), a3 j (by omega)]
      rw [show fX12_laysWord N f h 0 (nI n) 1085 = some f1 from a1, Option.bind_some, b1, Option.bind_some, show fX12_numberOf N f2 443 1085 = _ from hno, Option.bind_some]
      have hth := bl_there (x := Wd t 0 n) hC.2.1
      have hbl := bl_le (cm m d fl ew e).2 (cm m d fl ew e).1 (Wd t 0 n)
      have hfail : ∀ r : Int32, ∃ r' e' fl' ew' gc' f', some ((-1 : Int32), nI e, (0 : Int32), nI (cm m d fl ew e).1, gc) = some (r', nI e', 0, nI (cm m d fl' ew' e').1, gc') ∧ some ((-1 : Int32), (0 : Int32), f2) = some (r', 0, f') ∧ e' ≤ 12 ∧ Bat m d fl' ew' e' ∧ EA f' fl' ew' e' ∧ Ris gc' (cm m d fl' ew' e').2 (cm m d fl' ew' e').1 ∧ DA f' 0 d m ∧ ∀ j, (430 ≤ j ∧ j < 443) ∨ 1093 ≤ j → f' j = f j := fun _ => ⟨-1, e, fl, ew, gc, f2, rfl, rfl, he, hB, hE2, hR, hA2, fun j hj => hO12 j (by omega)⟩
      have h133 : ∀ a, a ≤ 1 → p1 = nI a → (a = 1 → ∃ i, i < (cm m d fl ew e).1 ∧ (cm m d fl ew e).2 i = Wd t 0 n) → (a = 0 → (cm m d fl ew e).1 < 40 ∧ ¬ ∃ i, i < (cm m d fl ew e).1 ∧ (cm m d fl ew e).2 i = Wd t 0 n) → ∃ f', fX12_edit_133 N h p1 0 f2 = some (nI (e + 1), 0, f') ∧ EA f' (un fl e a) (un ew e (Wd t 0 n)) (e + 1) ∧ DA f' 0 d m ∧ Bat m d (un fl e a) (un ew e (Wd t 0 n)) (e + 1) ∧ ∀ j, (430 ≤ j ∧ j < 443) ∨ 1093 ≤ j → f' j = f j := fun a ha hpa q1 q0 => by
        obtain ⟨f', c1, c2, c3, c4⟩ := e12_edit_161 (N := N) (a := a) (p1 := p1) (v0 := 0) (h := h) hN (Nat.lt_of_le_of_ne he h12) wW hW2 hB hE2 hD hA2
        refine ⟨f', ?_, c2, c3, Bat_s hB wW ha q1 q0, fun j hj => by rw [c4 j (by omega), hO12 j (by omega)]⟩
        unfold fX12_edit_133
        rw [show (321 : Int32) = nI 321 from rfl, gi (by decide) (by decide), nI_clamp (by decide), hE2.1, e12_editAt, Option.bind_some]
        rcases (show a = 0 ∨ a = 1 by omega) with rfl | rfl
        · rw [if_pos (show p1 = 0 from hpa)]; exact c1
        · rw [if_neg (by rw [hpa]; decide)]; exact c1
      unfold fX11_edit_72 fX12_edit_106
      rcases hp with rfl | rfl
      · rw [if_pos rfl]
        by_cases hin : ∃ i, i < (cm m d fl ew e).1 ∧ (cm m d fl ew e).2 i = Wd t 0 n
        · rw [e7_add_no (by omega) hR hC.2.1 hC.sma hx62 hc40 (by omega) (Or.inr hin), Option.bind_some]
          dsimp only
          rw [if_pos rfl, if_pos (hth.mp hin), if_neg (nI_pos (by omega)), if_neg (show ¬ (1 : Int32) = 0 by decide)]
          exact hfail 0
        · rw [if_neg (fun z => hin (hth.mpr z)), if_pos (by decide), if_pos rfl, if_pos rfl, show (443 : Int32) = nI 443 from rfl, gi (by decide) (by decide), nI_clamp (by decide), b2.1]
          by_cases hfull : (cm m d fl ew e).1 = 40
          · rw [if_pos (by rw [hfull]; rfl), e7_add_no (by omega) hR hC.2.1 hC.sma hx62 hc40 (by omega) (Or.inl (by omega)), Option.bind_some]
            dsimp only
            rw [if_pos rfl]
            exact hfail 0
          · obtain ⟨gc', s1, s2⟩ := e7_add_yes (N := N) (n := 40) (by omega) hR hC.2.1 hC.sma hx62 (by omega) (by omega) hin
            obtain ⟨f', c1, c2, c3, c4, c5⟩ := h133 0 (by omega) rfl (fun z => by omega) (fun _ => ⟨by omega, hin⟩)
            rw [if_neg (show ¬ nI (cm m d fl ew e).1 = (40 : Int32) from fun z => hfull ((nI_eq (b := 40) (by omega) (by decide)).mp z)), s1, Option.bind_some, c1]
            dsimp only
            rw [if_neg (by decide), nI_1]
            have hcm : cm m d (un fl e 0) (un ew e (Wd t 0 n)) (e + 1) = ((cm m d fl ew e).1 + 1, insF (cm m d fl ew e).2 (bl (cm m d fl ew e).2 (cm m d fl ew e).1 (Wd t 0 n)) (Wd t 0 n)) := by
              rw [cm, un_s, un_s, if_neg (by decide), cm_s]
            refine ⟨_, e + 1, _, _, gc', f', ?_, rfl, by omega, c4, c2, ?_, c3, c5⟩
            · rw [hcm]
            · rw [hcm]; exact s2
      · rw [if_neg (by decide)]
        by_cases hin : ∃ i, i < (cm m d fl ew e).1 ∧ (cm m d fl ew e).2 i = Wd t 0 n
        · obtain ⟨gc', s1, s2⟩ := e7_drop_yes (N := N) (n := 40) (by omega) hR hC.2.1 hC.sma hx62 hc40 (by omega) hin
          obtain ⟨f', c1, c2, c3, c4, c5⟩ := h133 1 (by omega) rfl (fun _ => hin) (fun z => by omega)
          rw [if_pos (hth.mp hin), if_neg (nI_pos (by omega)), if_pos rfl, if_neg (by decide), s1, Option.bind_some, c1]
          dsimp only
          rw [if_neg (by decide), nI_1]
          have hcm : cm m d (un fl e 1) (un ew e (Wd t 0 n)) (e + 1) = ((cm m d fl ew e).1 - 1, delF (cm m d fl ew e).2 (bl (cm m d fl ew e).2 (cm m d fl ew e).1 (Wd t 0 n))) := by
            rw [cm, un_s, un_s, if_pos rfl, cm_s]
          refine ⟨_, e + 1, _, _, gc', f', ?_, rfl, by omega, c4, c2, ?_, c3, c5⟩
          · rw [hcm]
          · rw [hcm]; exact s2
        · rw [if_neg (fun z => hin (hth.mpr z)), if_pos (by decide), if_neg (by decide), e7_drop_no (by omega) hR hC.2.1 hC.sma hx62 hc40 (by omega) hin, Option.bind_some]
          dsimp only
          rw [if_pos rfl]
          exact hfail 0
  · have hz : (if lf t n 0 = n ∧ n ≤ 7 then Wd t 0 n else 0) = 0 := by
      by_cases q : lf t n 0 = n ∧ n ≤ 7
      · rw [if_pos q]
        have : n = 0 := Classical.byContradiction fun z => hw ⟨⟨by omega, q.2⟩, q.1⟩
        rw [this]
        exact hr_0 _
      · rw [if_neg q]
    have hfalse : (decide (1 ≤ n ∧ n ≤ 7) && decide (∀ j, j < n → 0 ≤ j → isL (t j) = true)) = false := by
      rw [Bool.eq_false_iff]
      intro z
      rw [Bool.and_eq_true, decide_eq_true_eq, decide_eq_true_eq] at z
      exact hw ⟨z.1, lf_all.mpr z.2⟩
    rw [hz, hfalse, if_pos (by decide), if_pos (ib0.mpr rfl)]
    exact ⟨-1, e, fl, ew, gc, f, rfl, rfl, he, hB, hE, hR, hA, fun j _ => rfl⟩
