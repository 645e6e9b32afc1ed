/-! ===== the batch: what the dictionary would be ===== -/
/-- after the first k edits: how many words, and which -/
def cm (m : Nat) (d : Nat → Nat) (fl ew : Nat → Nat) : Nat → Nat × (Nat → Nat)
  | 0 => (m, d)
  | k + 1 => if fl k = 1 then ((cm m d fl ew k).1 - 1, delF (cm m d fl ew k).2 (bl (cm m d fl ew k).2 (cm m d fl ew k).1 (ew k))) else ((cm m d fl ew k).1 + 1, insF (cm m d fl ew k).2 (bl (cm m d fl ew k).2 (cm m d fl ew k).1 (ew k)) (ew k))
/-- a dictionary: at most 40 words, rising -/
def Dic (m : Nat) (d : Nat → Nat) : Prop := m ≤ 40 ∧ Inc d m ∧ ∀ w, w < m → isW (d w)
/-- each edit could be done -/
def Bat (m : Nat) (d : Nat → Nat) (fl ew : Nat → Nat) (e : Nat) : Prop := ∀ k, k < e → isW (ew k) ∧ fl k ≤ 1 ∧ (fl k = 1 → ∃ i, i < (cm m d fl ew k).1 ∧ (cm m d fl ew k).2 i = ew k) ∧ (fl k = 0 → (cm m d fl ew k).1 < 40 ∧ ¬ ∃ i, i < (cm m d fl ew k).1 ∧ (cm m d fl ew k).2 i = ew k)
/-- the edits as they lie in the model -/
def EA (f : Nat → Int32) (fl ew : Nat → Nat) (e : Nat) : Prop := f 321 = nI e ∧ ∀ k, k < e → f (322 + 9 * k) = nI (fl k) ∧ WA f (323 + 9 * k) (ew k)
theorem Dic.ins {m : Nat} {d : Nat → Nat} {x : Nat} (h : Dic m d) (hm : m < 40) (hx : isW x) (hn : ¬ ∃ i, i < m ∧ d i = x) : Dic (m + 1) (insF d (bl d m x) x) := ⟨by omega, ins_inc h.2.1 hn, fun w hw => ins_all h.2.2 hx w hw (bl_le _ _ _)⟩
theorem Dic.del {m : Nat} {d : Nat → Nat} {p : Nat} (h : Dic m d) : Dic (m - 1) (delF d p) := ⟨by have := h.1; omega, del_inc h.2.1, fun w hw => del_all h.2.2 w hw⟩
theorem Dic.sma {m : Nat} {d : Nat → Nat} (h : Dic m d) : Sma d m := fun i hi => by have := (h.2.2 i hi).1; omega
theorem cm_ok {m : Nat} {d fl ew : Nat → Nat} {e : Nat} (hd : Dic m d) (hb : Bat m d fl ew e) : ∀ k, k ≤ e → Dic (cm m d fl ew k).1 (cm m d fl ew k).2 := by
  intro k
  induction k with
  | zero => intro _; exact hd
  | succ k ih =>
    intro hk
    have hk' := ih (by omega)
    obtain ⟨h1, h2, h3, h4⟩ := hb k (by omega)
    rw [cm]
    by_cases hf : fl k = 1
    · rw [if_pos hf]; exact hk'.del
    · rw [if_neg hf]
      obtain ⟨h5, h6⟩ := h4 (by omega)
      exact hk'.ins h5 h1 h6
theorem cm_cong {m : Nat} {d fl ew fl' ew' : Nat → Nat} : ∀ k, (∀ j, j < k → fl j = fl' j ∧ ew j = ew' j) → cm m d fl ew k = cm m d fl' ew' k
  | 0, _ => rfl
  | k + 1, h => by
    rw [cm, cm, cm_cong k (fun j hj => h j (by omega)), (h k (by omega)).1, (h k (by omega)).2]
theorem e12_editAt (k : Nat) : fX12_editAt (nI k) = some (nI (322 + 9 * k)) := by
  unfold fX12_editAt
  have e : (9 : Int32) * nI k = nI (9 * k) := pk_mul 9 k
  rw [e]; exact congrArg some (nI_add 322 (9 * k))
theorem EA.out {f g : Nat → Int32} {fl ew : Nat → Nat} {e a c : Nat} (h : EA f fl ew e) (hO : Out f g a c) (hw : ∀ k, k < e → isW (ew k)) (ha : 322 + 9 * e ≤ a ∨ a + c ≤ 321) : EA g fl ew e := by
  refine ⟨by rw [hO _ (by omega)]; exact h.1, fun k hk => ⟨by rw [hO _ (by omega)]; exact (h.2 k hk).1, hO.WA (hw k hk).2.2.1 (by omega) (h.2 k hk).2⟩⟩
theorem e12_laysComing_l {N m e : Nat} {d fl ew : Nat → Nat} (hN : 1000 ≤ N) (hD : Dic m d) (hB : Bat m d fl ew e) (he : e ≤ 12) : ∀ K k f, k ≤ e → e + 1 ≤ K + k → EA f fl ew e → DA f 443 (cm m d fl ew k).2 (cm m d fl ew k).1 → ∃ f', fX12_laysComing_13 N K (nI k) f = some f' ∧ DA f' 443 (cm m d fl ew e).2 (cm m d fl ew e).1 ∧ Out f f' 443 321 := by
  have hwe : ∀ k, k < e → isW (ew k) := fun k hk => (hB k hk).1
  intro K
  induction K with
  | zero => intro k f h1 h2; omega
  | succ K ih =>
    intro k f h1 h2 hE hC
    rw [fX12_laysComing_13, show (321 : Int32) = nI 321 from rfl, gi (by omega) (by decide), nI_clamp (by omega), hE.1]
    by_cases hk : e ≤ k
    · have hke : k = e := by omega
      rw [if_pos (nI_le hk (by omega))]
      rw [hke] at hC
      exact ⟨f, rfl, hC, Out.rf⟩
    · rw [if_neg (nI_ge (by omega) (by omega)), e12_editAt, Option.bind_some, Option.bind_some, gi (by omega) (by decide), nI_clamp (by omega), (hE.2 k (by omega)).1, nI_1]
      obtain ⟨w1, w2, w3, w4⟩ := hB k (by omega)
      have hDk := cm_ok hD hB k (by omega)
      have h40 := hDk.1
      have hx : WA f (323 + 9 * k) (ew k) := (hE.2 k (by omega)).2
      by_cases hf : fl k = 1
      · have hth := w3 hf
        have hbl := (bl_there hDk.2.1).mp hth
        rw [if_pos (show nI (fl k) = 1 by rw [hf]; rfl), show (443 : Int32) = nI 443 from rfl, show nI (322 + 9 * k + 1) = nI (323 + 9 * k) by rw [show 322 + 9 * k + 1 = 323 + 9 * k by omega], e12_numberOf hN hC hx w1 hDk.2.2 hDk.2.1 (by omega) (by omega) h40, Option.bind_some, if_pos hbl]
        obtain ⟨f1, h5, h6, h7⟩ := e12_goes hN hC hDk.2.2 (by omega) h40 hbl.1
        rw [h5, Option.bind_some, nI_1]
        have hO : Out f f1 443 321 := h7.wide (by omega) (by omega)
        have hcs : cm m d fl ew (k + 1) = ((cm m d fl ew k).1 - 1, delF (cm m d fl ew k).2 (bl (cm m d fl ew k).2 (cm m d fl ew k).1 (ew k))) := by rw [cm, if_pos hf]
        obtain ⟨f2, h8, h9, h10⟩ := ih (k + 1) f1 (by omega) (by omega) (hE.out hO hwe (by omega)) (by rw [hcs]; exact h6)
        exact ⟨f2, h8, h9, hO.trans h10⟩
      · obtain ⟨h5, h6⟩ := w4 (by omega)
        rw [if_neg (show ¬ nI (fl k) = 1 from fun q => hf ((nI_eq (b := 1) (by omega) (by decide)).mp q)), show (443 : Int32) = nI 443 from rfl, show nI (322 + 9 * k + 1) = nI (323 + 9 * k) by rw [show 322 + 9 * k + 1 = 323 + 9 * k by omega]]
        obtain ⟨f1, h7, h8, h9⟩ := e12_comes hN hC (by omega) (by omega) h40 hDk.2.2 w1 hDk.2.1 hx (Or.inl (by omega)) h6
        rw [h7, Option.bind_some, nI_1]
        have hO : Out f f1 443 321 := h9.wide (by omega) (by omega)
        have hcs : cm m d fl ew (k + 1) = ((cm m d fl ew k).1 + 1, insF (cm m d fl ew k).2 (bl (cm m d fl ew k).2 (cm m d fl ew k).1 (ew k)) (ew k)) := by rw [cm, if_neg hf]
        obtain ⟨f2, h10, h11, h12⟩ := ih (k + 1) f1 (by omega) (by omega) (hE.out hO hwe (by omega)) (by rw [hcs]; exact h8)
        exact ⟨f2, h10, h11, hO.trans h12⟩
/-- a list copied elsewhere -/
theorem DA_cpy {f : Nat → Int32} {s t c m : Nat} {d : Nat → Nat} (hw : ∀ w, w < m → isW (d w)) (hc : 1 + 8 * m ≤ c) (h : DA f s d m) : DA (va_cpy f f s t c) t d m := by
  refine ⟨by rw [pk_cpy_in (by omega) (by omega), show s + (t - t) = s by omega]; exact h.1, fun w hm => WA_cong (hw w hm).2.2.1 (fun i hi => ?_) (h.2 w hm)⟩
  rw [pk_cpy_in (by omega) (by omega)]
  congr 1; omega
theorem e12_laysComing {N m e : Nat} {f : Nat → Int32} {d fl ew : Nat → Nat} (hN : 1000 ≤ N) (hD : Dic m d) (hB : Bat m d fl ew e) (he : e ≤ 12) (h0 : DA f 0 d m) (hE : EA f fl ew e) : ∃ f', fX12_laysComing N f = some f' ∧ DA f' 443 (cm m d fl ew e).2 (cm m d fl ew e).1 ∧ Out f f' 443 321 := by
  have hm := hD.1
  unfold fX12_laysComing
  rw [show (0 : Int32) = nI 0 from rfl, show (443 : Int32) = nI 443 from rfl, show (321 : Int32) = nI 321 from rfl, e12_copies hN (by omega) (by omega) (by omega) (by omega), Option.bind_some]
  have hO : Out f (va_cpy f f 0 443 321) 443 321 := Out.cpy
  obtain ⟨f2, h1, h2, h3⟩ := e12_laysComing_l (fl := fl) (ew := ew) hN hD hB he N 0 (va_cpy f f 0 443 321) (by omega) (by omega) (hE.out hO (fun k hk => (hB k hk).1) (by omega)) (show DA (va_cpy f f 0 443 321) 443 d m from DA_cpy hD.2.2 (by omega) h0)
  exact ⟨f2, h1, h2, hO.trans h3⟩
