theorem cpy_step {f : Nat → Int32} {s t c k : Nat} (h : t ≤ s ∨ s + c ≤ t) (hk : k < c) : upd (va_cpy f f s t k) (t + k) (va_cpy f f s t k (s + k)) = va_cpy f f s t (k + 1) := by
  rw [pk_cpy_out (by omega)]
  funext j
  by_cases hj : j = t + k
  · subst hj; rw [pk_us, pk_cpy_in (by omega) (by omega)]; congr 1; omega
  · rw [pk_un hj]
    by_cases hj2 : t ≤ j ∧ j < t + k
    · rw [pk_cpy_in hj2.1 hj2.2, pk_cpy_in hj2.1 (by omega)]
    · rw [pk_cpy_out (by omega), pk_cpy_out (by omega)]
theorem cpy_0 {f g : Nat → Int32} {s t : Nat} : va_cpy f g s t 0 = g := by
  funext j; exact pk_cpy_out (by omega)
theorem e12_copies_l {N s t c : Nat} {f : Nat → Int32} (hs : s + c ≤ 5228) (ht : t + c ≤ 5228) (hd : t ≤ s ∨ s + c ≤ t) : ∀ K k, k ≤ c → c + 1 ≤ K + k → fX12_copies_3 N (nI s) (nI t) (nI c) K (nI k) (va_cpy f f s t k) = some (va_cpy f f s t c) := by
  intro K
  induction K with
  | zero => intro k h1 h2; omega
  | succ K ih =>
    intro k h1 h2
    rw [fX12_copies_3]
    by_cases h : c ≤ k
    · rw [if_pos (nI_le h (by omega)), show k = c by omega]
    · rw [if_neg (nI_ge (by omega) (by omega)), nI_add, nI_add, gi (by omega) (by decide), gi (by omega) (by decide), nI_clamp (by omega), nI_clamp (by omega), cpy_step hd (by omega), nI_1]
      exact ih (k + 1) (by omega) (by omega)
theorem e12_copies {N s t c : Nat} {f : Nat → Int32} (hN : 1000 ≤ N) (hc : c ≤ 990) (hs : s + c ≤ 5228) (ht : t + c ≤ 5228) (hd : t ≤ s ∨ s + c ≤ t) : fX12_copies N f (nI s) (nI t) (nI c) = some (va_cpy f f s t c) := by
  unfold fX12_copies
  have h := e12_copies_l (N := N) (f := f) hs ht hd N 0 (by omega) (by omega)
  rw [cpy_0] at h
  exact h
/-- nothing changed outside a stretch -/
def Out (f g : Nat → Int32) (a c : Nat) : Prop := ∀ j, (j < a ∨ a + c ≤ j) → g j = f j
theorem Out.rf {f : Nat → Int32} {a c : Nat} : Out f f a c := fun _ _ => rfl
theorem Out.trans {f g h : Nat → Int32} {a c : Nat} (h1 : Out f g a c) (h2 : Out g h a c) : Out f h a c := fun j hj => (h2 j hj).trans (h1 j hj)
theorem Out.wide {f g : Nat → Int32} {a c a' c' : Nat} (h : Out f g a c) (h1 : a' ≤ a) (h2 : a + c ≤ a' + c') : Out f g a' c' := fun j hj => h j (by omega)
theorem Out.cpy {f : Nat → Int32} {s t c : Nat} : Out f (va_cpy f f s t c) t c := fun j hj => pk_cpy_out hj
theorem Out.upd {f : Nat → Int32} {k : Nat} {v : Int32} : Out f (upd f k v) k 1 := fun j hj => pk_un (by omega)
theorem Out.WA {f g : Nat → Int32} {a c x r : Nat} (h : Out f g a c) (hr : ln r ≤ 7) (hx : x + 8 ≤ a ∨ a + c ≤ x) (hw : WA f x r) : WA g x r := WA_cong hr (fun i hi => h _ (by omega)) hw
theorem Out.DA {f g : Nat → Int32} {a c b m : Nat} {d : Nat → Nat} (h : Out f g a c) (wd : ∀ w, w < m → isW (d w)) (hx : b + 1 + 8 * m ≤ a ∨ a + c ≤ b) (hw : DA f b d m) : DA g b d m := by
  refine ⟨by rw [h b (by omega)]; exact hw.1, fun w hm => h.WA (wd w hm).2.2.1 (by omega) (hw.2 w hm)⟩
/-- a word goes -/
theorem e12_goes {N b m p : Nat} {f : Nat → Int32} {d : Nat → Nat} (hN : 1000 ≤ N) (hd : DA f b d m) (wd : ∀ w, w < m → isW (d w)) (hb : b + 1 + 8 * m ≤ 5228) (hm : m ≤ 40) (hp : p < m) : ∃ f', fX12_goes N f (nI b) (nI p) = some f' ∧ DA f' b (delF d p) (m - 1) ∧ Out f f' b (1 + 8 * m) := by
  unfold fX12_goes
  have e1 : nI m - 1 = nI (m - 1) := pk_sub (b := 1) (by omega)
  have e2 : nI (m - 1) - nI p = nI (m - 1 - p) := pk_sub (by omega)
  have e3 : (8 : Int32) * nI (m - 1 - p) = nI (8 * (m - 1 - p)) := pk_mul 8 _
  rw [gi (by omega) (by decide), gi (by omega) (by decide), nI_1, e12_wordAt, Option.bind_some, e12_wordAt, Option.bind_some, gi (by omega) (by decide), nI_clamp (by omega), hd.1, pk_us, e1, e2, e3, e12_copies hN (by omega) (by omega) (by omega) (Or.inl (by omega)), Option.bind_some]
  refine ⟨_, rfl, ⟨?_, fun w hw => ?_⟩, ?_⟩
  · rw [pk_cpy_out (by omega), pk_us]
  · unfold delF
    by_cases h : w < p
    · rw [if_pos h]
      refine WA_cong (wd w (by omega)).2.2.1 (fun i hi => ?_) (hd.2 w (by omega))
      rw [pk_cpy_out (by omega), pk_un (by omega)]
    · rw [if_neg h]
      refine WA_cong (wd (w + 1) (by omega)).2.2.1 (fun i hi => ?_) (hd.2 (w + 1) (by omega))
      rw [pk_cpy_in (by omega) (by omega), pk_un (by omega)]
      congr 1; omega
  · exact (Out.upd.wide (by omega) (by omega)).trans (Out.cpy.wide (by omega) (by omega))
/-- a word comes: the end -/
theorem e12_comes_50 {N b x m r p : Nat} {f g : Nat → Int32} {d : Nat → Nat} (hN : 1000 ≤ N) (hb : b + 1 + 8 * (m + 1) ≤ 5228) (bx : x + 8 ≤ 5228) (hm : m ≤ 40) (hpm : p ≤ m) (wd : ∀ w, w < m → isW (d w)) (wr : isW r) (hx : WA f x r) (hxo : x + 8 ≤ b ∨ b + 1 + 8 * (m + 1) ≤ x) (hO : Out f g b (1 + 8 * (m + 1))) (hgb : g b = nI m) (hlo : ∀ w, w < p → WA g (b + 1 + 8 * w) (d w)) (hhi : ∀ w, p < w → w ≤ m → WA g (b + 1 + 8 * w) (d (w - 1))) : ∃ f', fX12_comes_50 N (nI b) (nI x) (nI p) g = some f' ∧ DA f' b (insF d p r) (m + 1) ∧ Out f f' b (1 + 8 * (m + 1)) := by
  unfold fX12_comes_50
  rw [e12_wordAt, Option.bind_some, show (8 : Int32) = nI 8 from rfl, e12_copies hN (by omega) (by omega) (by omega) (by omega), Option.bind_some, gi (by omega) (by decide), gi (by omega) (by decide), nI_clamp (by omega), pk_cpy_out (by omega), hgb, nI_1]
  refine ⟨_, rfl, ⟨pk_us, fun w hw => ?_⟩, hO.trans ((Out.cpy.wide (by omega) (by omega)).trans (Out.upd.wide (by omega) (by omega)))⟩
  unfold insF
  by_cases h1 : w < p
  · rw [if_pos h1]
    refine WA_cong (wd w (by omega)).2.2.1 (fun i hi => ?_) (hlo w h1)
    rw [pk_un (by omega), pk_cpy_out (by omega)]
  · rw [if_neg h1]
    by_cases h2 : w = p
    · rw [if_pos h2]
      subst h2
      refine WA_cong wr.2.2.1 (fun i hi => ?_) hx
      rw [pk_un (by omega), pk_cpy_in (by omega) (by omega), hO _ (by omega)]
      congr 1; omega
    · rw [if_neg h2]
      refine WA_cong (wd (w - 1) (by omega)).2.2.1 (fun i hi => ?_) (hhi w (by omega) (by omega))
      rw [pk_un (by omega), pk_cpy_out (by omega)]
theorem e12_comes_l {N b x m r : Nat} {f : Nat → Int32} {d : Nat → Nat} (hN : 1000 ≤ N) (hb : b + 1 + 8 * (m + 1) ≤ 5228) (bx : x + 8 ≤ 5228) (hm : m ≤ 40) (wd : ∀ w, w < m → isW (d w)) (wr : isW r) (hI : Inc d m) (hx : WA f x r) (hxo : x + 8 ≤ b ∨ b + 1 + 8 * (m + 1) ≤ x) (hn : ¬ ∃ i, i < m ∧ d i = r) : ∀ K p g, bl d m r ≤ p → p ≤ m → p + 1 ≤ K → Out f g b (1 + 8 * (m + 1)) → g b = nI m → (∀ w, w < p → WA g (b + 1 + 8 * w) (d w)) → (∀ w, p < w → w ≤ m → WA g (b + 1 + 8 * w) (d (w - 1))) → ∃ f', fX12_comes_7 N (nI b) (nI x) K (nI p) g = some f' ∧ DA f' b (insF d (bl d m r) r) (m + 1) ∧ Out f f' b (1 + 8 * (m + 1)) := by
  intro K
  induction K with
  | zero => intro p g h1 h2 h3; omega
  | succ K ih =>
    intro p g h1 h2 h3 hO hgb hlo hhi
    rw [fX12_comes_7]
    by_cases hp : p = 0
    · subst hp
      rw [if_pos (by decide), show bl d m r = 0 by omega]
      exact e12_comes_50 hN hb bx hm h2 wd wr hx hxo hO hgb hlo hhi
    · rw [if_neg (show ¬ nI p ≤ 0 from nI_nle (by omega) (by omega))]
      have e1 : nI p - 1 = nI (p - 1) := pk_sub (b := 1) (by omega)
      have hxg : WA g x r := hO.WA wr.2.2.1 (by omega) hx
      rw [e1, e12_wordAt, Option.bind_some, e12_order (by omega) hxg (hlo (p - 1) (by omega)) wr (wd _ (by omega)) bx (by omega), Option.bind_some]
      have hne : d (p - 1) ≠ r := fun q => hn ⟨p - 1, by omega, q⟩
      by_cases hlt : r < d (p - 1)
      · rw [if_pos hlt, if_neg (by decide), Option.bind_some, e12_wordAt, Option.bind_some, show (8 : Int32) = nI 8 from rfl, e12_copies hN (by omega) (by omega) (by omega) (Or.inr (by omega)), Option.bind_some, sb_m1 (by omega)]
        have hbl : bl d m r ≤ p - 1 := Classical.byContradiction fun q => by have := bl_lt (d := d) (m := m) (x := r) (i := p - 1) (by omega); omega
        refine ih (p - 1) _ hbl (by omega) (by omega) (hO.trans (Out.cpy.wide (by omega) (by omega))) (by rw [pk_cpy_out (by omega)]; exact hgb) (fun w hw => ?_) (fun w hw1 hw2 => ?_)
        · refine WA_cong (wd w (by omega)).2.2.1 (fun i hi => ?_) (hlo w (by omega))
          rw [pk_cpy_out (by omega)]
        · by_cases hwp : w = p
          · subst hwp
            refine WA_cong (wd (w - 1) (by omega)).2.2.1 (fun i hi => ?_) (hlo (w - 1) (by omega))
            rw [pk_cpy_in (by omega) (by omega)]; congr 1; omega
          · refine WA_cong (wd (w - 1) (by omega)).2.2.1 (fun i hi => ?_) (hhi w (by omega) hw2)
            rw [pk_cpy_out (by omega)]
      · have hpos : (0 : Int32) ≤ (if r < d (p - 1) then (-1 : Int32) else if r = d (p - 1) then 0 else 1) := by
          rw [if_neg hlt, if_neg (fun q => hne q.symm)]; decide
        have hbp : bl d m r = p := bl_is h2 (fun i hi => by
          by_cases hi1 : i = p - 1
          · rw [hi1]; omega
          · have := hI i (p - 1) (by omega) (by omega); omega) (fun hpm => by have := bl_ge hI (x := r) h1 hpm; exact this)
        rw [if_pos hpos, hbp]
        exact e12_comes_50 hN hb bx hm h2 wd wr hx hxo hO hgb hlo hhi
theorem e12_comes {N b x m r : Nat} {f : Nat → Int32} {d : Nat → Nat} (hN : 1000 ≤ N) (hd : DA f b d m) (hb : b + 1 + 8 * (m + 1) ≤ 5228) (bx : x + 8 ≤ 5228) (hm : m ≤ 40) (wd : ∀ w, w < m → isW (d w)) (wr : isW r) (hI : Inc d m) (hx : WA f x r) (hxo : x + 8 ≤ b ∨ b + 1 + 8 * (m + 1) ≤ x) (hn : ¬ ∃ i, i < m ∧ d i = r) : ∃ f', fX12_comes N f (nI b) (nI x) = some f' ∧ DA f' b (insF d (bl d m r) r) (m + 1) ∧ Out f f' b (1 + 8 * (m + 1)) := by
  unfold fX12_comes
  rw [gi (by omega) (by decide), nI_clamp (by omega), hd.1]
  exact e12_comes_l hN hb bx hm wd wr hI hx hxo hn N m f (bl_le _ _ _) (Nat.le_refl m) (by omega) Out.rf hd.1 (fun w hw => hd.2 w hw) (fun w h1 h2 => by omega)
