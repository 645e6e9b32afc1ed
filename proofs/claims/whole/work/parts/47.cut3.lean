/-! ===== the reference cuts a pattern ===== -/
theorem tkR_old (q : Nat → Nat) (p : Nat) : ∀ c T a j, j < T.2.2 → (tkR q p T a c).2.1 j = T.2.1 j
  | 0, T, a, j, h => rfl
  | c + 1, T, a, j, h => by
    rw [tkR, tkR_old q p c _ _ j (by unfold tk1; dsimp only; omega)]
    unfold tk1; dsimp only; exact un_n (by omega)
theorem tkR_new (q : Nat → Nat) (p : Nat) : ∀ c T a j, T.2.2 ≤ j → j < T.2.2 + c → (tkR q p T a c).2.1 j = p
  | 0, T, a, j, h, h2 => by omega
  | c + 1, T, a, j, h, h2 => by
    rw [tkR]
    by_cases hj : j = T.2.2
    · rw [tkR_old q p c _ _ j (by unfold tk1; dsimp only; omega)]
      unfold tk1; dsimp only; rw [hj, un_s]
    · exact tkR_new q p c _ _ j (by unfold tk1; dsimp only; omega) (by unfold tk1; dsimp only; omega)
theorem tkR_z (q : Nat → Nat) : ∀ c T a, (∀ j, T.2.1 j = 0) → ∀ j, (tkR q 0 T a c).2.1 j = 0
  | 0, T, a, h, j => h j
  | c + 1, T, a, h, j => by
    rw [tkR]
    exact tkR_z q c _ _ (fun j => by unfold tk1 un; dsimp only; split <;> first | rfl | exact h j) j
theorem tkB_S (q : Nat → Nat) : ∀ k T pcs a, (tkB q T pcs a k).1.2.2 ≤ T.2.2 + k
  | 0, T, pcs, a => by rw [tkB]; exact Nat.le_refl _
  | k + 1, T, pcs, a => by
    rw [tkB]
    split
    · have := tkB_S q k T pcs (a + 1); omega
    · split
      · have := tkB_S q k (tk1 T (q a) pcs) (pcs + 1) (a + 1)
        have e : (tk1 T (q a) pcs).2.2 = T.2.2 + 1 := rfl
        omega
      · have := tkB_S q k (tk1 T (q a) (pcs - 1)) pcs (a + 1)
        have e : (tk1 T (q a) (pcs - 1)).2.2 = T.2.2 + 1 := rfl
        omega
theorem TKa_S (q : Nat → Nat) (P : Nat) : (TKa q P).2.2 = P - lst_ q P + 1 := by
  have := tkR_S q 0 (P - lst_ q P) TK0 (lst_ q P)
  have s0 : TK0.2.2 = 0 := rfl
  unfold TKa tk1; dsimp only; omega
theorem TKf_S {q : Nat → Nat} {P : Nat} (hq : PT q P) : (TKf q P).1.2.2 ≤ 13 := by
  have h12 := hq.2.1
  have ha := TKa_S q P
  have l1 := lst_le q P
  unfold TKf
  by_cases hf : fst_ q P < P
  · rw [if_pos hf]
    have h1 := tkB_S q (lst_ q P - 1 - (fst_ q P + 1)) (tkR q 0 (TKa q P) 0 (fst_ q P)) 1 (fst_ q P + 1)
    have h2 := tkR_S q 0 (fst_ q P) (TKa q P) 0
    have h3 := fst_lst hf
    omega
  · rw [if_neg hf]; dsimp only; omega
theorem tkB_more (q : Nat → Nat) (pcs k : Nat) : ∀ c T a, 1 ≤ a → q (a - 1) ≠ 42 → (∀ j, a ≤ j → j < a + c → q j ≠ 42) → tkB q T pcs a (c + k) = tkB q (tkR q (pcs - 1) T a c) pcs (a + c) k
  | 0, T, a, _, _, _ => by rw [Nat.zero_add, tkR]; rfl
  | c + 1, T, a, h0, h1, h2 => by
    rw [show c + 1 + k = (c + k) + 1 by omega, tkB, if_neg (h2 a (by omega) (by omega)), if_neg h1, tkB_more q pcs k c _ (a + 1) (by omega) (by rw [show a + 1 - 1 = a by omega]; exact h2 a (by omega) (by omega)) (fun j j1 j2 => h2 j (by omega) (by omega)), tkR, show a + 1 + c = a + (c + 1) by omega]
theorem tkB_piece {q : Nat → Nat} {pcs k c : Nat} {T : TK} {a : Nat} (h0 : 1 ≤ a) (h1 : q (a - 1) = 42) (h2 : ∀ j, a ≤ j → j < a + (c + 1) → q j ≠ 42) : tkB q T pcs a (c + 1 + k) = tkB q (tkR q pcs T a (c + 1)) (pcs + 1) (a + (c + 1)) k := by
  rw [show c + 1 + k = (c + k) + 1 by omega, tkB, if_neg (h2 a (by omega) (by omega)), if_pos h1, tkB_more q (pcs + 1) k c _ (a + 1) (by omega) (by rw [show a + 1 - 1 = a by omega]; exact h2 a (by omega) (by omega)) (fun j j1 j2 => h2 j (by omega) (by omega)), show pcs + 1 - 1 = pcs by omega, show a + 1 + c = a + (c + 1) by omega]
  rw [tkR]
def MR (T : TK) (ps : Nat → Int32) : Prop := ∀ j, j < T.2.2 → ps j = nI (T.1 j)
theorem MR_1 {T : TK} {ps : Nat → Int32} (h : MR T ps) (x p : Nat) : MR (tk1 T x p) (upd ps T.2.2 (nI x)) := fun j hj => by
  unfold tk1 at hj ⊢
  dsimp only at hj ⊢
  by_cases q : j = T.2.2
  · rw [q, pk_us, un_s]
  · rw [pk_un q, un_n q]; exact h j (by omega)
theorem a431 (i : Nat) : (431 : Int32) + nI i = nI (431 + i) := nI_add 431 i
theorem e12_adds_l {N P b p : Nat} {f : Nat → Int32} {q : Nat → Nat} {y : Int32} (hq : PT q P) (hP : PA f 430 q P) (hb : b ≤ P) : ∀ K i T ps, i ≤ b → b + 1 ≤ K + i → MR T ps → T.2.2 + (b - i) ≤ 13 → ∃ ps', fX12_adds_2 N f y (nI b) K (nI i) (nI T.2.2) ps = some (nI (T.2.2 + (b - i)), ps') ∧ MR (tkR q p T i (b - i)) ps' := by
  have h12 := hq.2.1
  intro K
  induction K with
  | zero => intro i T ps h1 h2; omega
  | succ K ih =>
    intro i T ps h1 h2 h3 h4
    rw [fX12_adds_2]
    by_cases hi : b ≤ i
    · rw [if_pos (nI_le hi (by omega)), show b - i = 0 by omega, tkR]
      exact ⟨_, rfl, h3⟩
    · have hf := hP.2 i (by omega)
      rw [if_neg (nI_ge (by omega) (by omega)), a431, gi (by omega) (by decide), gi (by omega) (by decide), nI_clamp (by omega), nI_clamp (by omega), show (431 : Nat) + i = 430 + 1 + i by omega, hf, nI_1, nI_1, show b - i = (b - (i + 1)) + 1 by omega, tkR]
      obtain ⟨ps', e1, e2⟩ := ih (i + 1) (tk1 T (q i) p) _ (by omega) (by omega) (MR_1 h3 (q i) p) (by show T.2.2 + 1 + _ ≤ 13; omega)
      refine ⟨ps', ?_, e2⟩
      change fX12_adds_2 N f y (nI b) K (nI (i + 1)) (nI (T.2.2 + 1)) _ = some (nI (T.2.2 + 1 + _), ps') at e1
      rw [e1, show T.2.2 + 1 + (b - (i + 1)) = T.2.2 + (b - (i + 1) + 1) by omega]
theorem e12_adds {N P a b p : Nat} {f ps : Nat → Int32} {q : Nat → Nat} {T : TK} (hN : 1000 ≤ N) (hq : PT q P) (hP : PA f 430 q P) (hab : a ≤ b) (hb : b ≤ P) (hM : MR T ps) (h4 : T.2.2 + (b - a) ≤ 13) : ∃ ps', fX12_adds N (nI T.2.2) f ps (nI a) (nI b) = some (nI (T.2.2 + (b - a)), ps') ∧ MR (tkR q p T a (b - a)) ps' := by
  have h12 := hq.2.1
  unfold fX12_adds
  exact e12_adds_l hq hP hb N a T ps hab (by omega) hM h4
theorem e12_starBehind_l {N P b : Nat} {f : Nat → Int32} {q : Nat → Nat} {y : Int32} (hq : PT q P) (hP : PA f 430 q P) (hb : b ≤ P) (hst : b < P → q b = 42) : ∀ K i, i ≤ b → P + 1 ≤ K + i → (∀ j, i ≤ j → j < b → q j ≠ 42) → fX12_starBehind_2 N f y K (nI i) = some (nI b) := by
  have h12 := hq.2.1
  intro K
  induction K with
  | zero => intro i h1 h2; omega
  | succ K ih =>
    intro i h1 h2 h3
    rw [fX12_starBehind_2, show (430 : Int32) = nI 430 from rfl, gi (by decide) (by decide), nI_clamp (by decide), hP.1]
    by_cases hi : P ≤ i
    · rw [if_pos (nI_le hi (by omega)), show i = b by omega]
    · have hf := hP.2 i (by omega)
      have hqi := hq.2.2 i (by omega)
      rw [if_neg (nI_ge (by omega) (by omega)), a431, gi (by omega) (by decide), nI_clamp (by omega), show (431 : Nat) + i = 430 + 1 + i by omega, hf, nI_1]
      by_cases hib : i = b
      · rw [if_pos (by rw [hib, hst (by omega)]; rfl), hib]
      · rw [if_neg (show ¬ nI (q i) = (42 : Int32) from fun z => h3 i (by omega) (by omega) ((nI_eq (b := 42) (by omega) (by decide)).mp z))]
        exact ih (i + 1) (by omega) (by omega) (fun j j1 j2 => h3 j (by omega) j2)
theorem e12_starBehind {N P a b : Nat} {f : Nat → Int32} {q : Nat → Nat} (hN : 1000 ≤ N) (hq : PT q P) (hP : PA f 430 q P) (hab : a ≤ b) (hb : b ≤ P) (hst : b < P → q b = 42) (hno : ∀ j, a ≤ j → j < b → q j ≠ 42) : fX12_starBehind N f (nI a) = some (nI b) := by
  have h12 := hq.2.1
  unfold fX12_starBehind
  exact e12_starBehind_l hq hP hb hst N a hab (by omega) hno
/-- where the pieces begin -/
def BRel (T : TK) (pcs : Nat) (pf : Nat → Int32) (bd : Nat → Nat) : Prop := bd 0 = 0 ∧ bd pcs = T.2.2 ∧ pcs ≤ T.2.2 ∧ (∀ p, p ≤ pcs → pf p = nI (bd p)) ∧ (∀ p, p < pcs → bd p < bd (p + 1)) ∧ ∀ p, p < pcs → ∀ j, bd p ≤ j → j < bd (p + 1) → T.2.1 j = p
theorem BRel_next {q : Nat → Nat} {T : TK} {pcs a c : Nat} {pf : Nat → Int32} {bd : Nat → Nat} (h : BRel T pcs pf bd) : BRel (tkR q pcs T a (c + 1)) (pcs + 1) (upd pf (pcs + 1) (nI (T.2.2 + (c + 1)))) (un bd (pcs + 1) (T.2.2 + (c + 1))) := by
  obtain ⟨h1, h2, h3, h4, h5, h6⟩ := h
  have hS := tkR_S q pcs (c + 1) T a
  have mono : ∀ n p, p + n = pcs → bd p ≤ T.2.2 := by
    intro n
    induction n with
    | zero => intro p hp; rw [show p = pcs by omega, h2]; exact Nat.le_refl _
    | succ n ih => intro p hp; have := ih (p + 1) (by omega); have := h5 p (by omega); omega
  refine ⟨by rw [un_n (by omega)]; exact h1, by rw [un_s, hS], by omega, fun p hp => ?_, fun p hp => ?_, fun p hp j j1 j2 => ?_⟩
  · by_cases e : p = pcs + 1
    · rw [e, pk_us, un_s]
    · rw [pk_un e, un_n e]; exact h4 p (by omega)
  · rw [un_n (show p ≠ pcs + 1 by omega)]
    by_cases e : p = pcs
    · rw [e, un_s, h2]; omega
    · rw [un_n (by omega)]; exact h5 p (by omega)
  · rw [un_n (show p ≠ pcs + 1 by omega)] at j1
    by_cases e : p = pcs
    · subst e
      rw [un_s] at j2
      exact tkR_new q p (c + 1) T a j (by omega) j2
    · rw [un_n (by omega)] at j2
      have m2 := mono (pcs - (p + 1)) (p + 1) (by omega)
      rw [tkR_old q pcs (c + 1) T a j (by omega)]
      exact h6 p (by omega) j j1 j2
theorem nxt_star {q : Nat → Nat} {l : Nat} (hl : q l = 42) : ∀ n a, a + n = l → ∃ b, a ≤ b ∧ b ≤ l ∧ q b = 42 ∧ ∀ j, a ≤ j → j < b → q j ≠ 42
  | 0, a, h => ⟨a, Nat.le_refl _, by omega, by rw [show a = l by omega]; exact hl, fun j j1 j2 => by omega⟩
  | n + 1, a, h => by
    by_cases hs : q a = 42
    · exact ⟨a, Nat.le_refl _, by omega, hs, fun j j1 j2 => by omega⟩
    · obtain ⟨b, b1, b2, b3, b4⟩ := nxt_star hl n (a + 1) (by omega)
      exact ⟨b, by omega, b2, b3, fun j j1 j2 => by
        by_cases e : j = a
        · rw [e]; exact hs
        · exact b4 j (by omega) j2⟩
theorem e12_endsPiece {p S : Nat} {pf : Nat → Int32} (h : p + 1 < 14) : fX12_endsPiece (nI p) (nI S) pf = some (nI (p + 1), upd pf (p + 1) (nI S)) := by
  unfold fX12_endsPiece
  rw [nI_1, gi (by omega) (by decide), nI_clamp (by omega)]
theorem e12_pieces_109 {N P l : Nat} {f : Nat → Int32} {q : Nat → Nat} (hN : 1000 ≤ N) (hq : PT q P) (hP : PA f 430 q P) (hl : l < P) (hl42 : q l = 42) : ∀ K a T pcs ps pf bd, a ≤ l → q a = 42 → l + 1 ≤ K + a → MR T ps → BRel T pcs pf bd → T.2.2 + (l - (a + 1)) ≤ 13 → ∃ ps' pf' bd', fX12_laysPieces_109 N f K (nI l) (nI a) (nI pcs) (nI T.2.2) ps pf = some (nI (tkB q T pcs (a + 1) (l - (a + 1))).2, nI (tkB q T pcs (a + 1) (l - (a + 1))).1.2.2, ps', pf') ∧ MR (tkB q T pcs (a + 1) (l - (a + 1))).1 ps' ∧ BRel (tkB q T pcs (a + 1) (l - (a + 1))).1 (tkB q T pcs (a + 1) (l - (a + 1))).2 pf' bd' := by
  have h12 := hq.2.1
  intro K
  induction K with
  | zero => intro a T pcs ps pf bd h1 _ h2; omega
  | succ K ih =>
    intro a T pcs ps pf bd h1 h1s h2 hM hB hS
    rw [fX12_laysPieces_109]
    by_cases ha : l ≤ a
    · rw [if_pos (nI_le ha (by omega)), show l - (a + 1) = 0 by omega, tkB]
      exact ⟨ps, pf, bd, rfl, hM, hB⟩
    · obtain ⟨b, b1, b2, b3, b4⟩ := nxt_star hl42 (l - (a + 1)) (a + 1) (by omega)
      have hsb : fX12_starBehind N f (nI (a + 1)) = some (nI b) := e12_starBehind hN hq hP b1 (by omega) (fun _ => b3) b4
      rw [if_neg (nI_ge (by omega) (by omega)), nI_1, hsb, Option.bind_some, Option.bind_some]
      have hstep : ∀ T' pcs', tkB q T' pcs' b (l - b) = tkB q T' pcs' (b + 1) (l - (b + 1)) := fun T' pcs' => by
        by_cases e : b = l
        · rw [show l - b = 0 by omega, show l - (b + 1) = 0 by omega, tkB, tkB]
        · rw [show l - b = (l - (b + 1)) + 1 by omega, tkB, if_pos b3]
      by_cases e : b = a + 1
      · rw [if_pos (by rw [e])]
        unfold fX12_laysPieces_153
        rw [nI_1, hsb, Option.bind_some]
        rw [← e, hstep]
        exact ih b T pcs ps pf bd b2 b3 (by omega) hM hB (by omega)
      · rw [if_neg (fun z => e ((nI_eq (by omega) (by omega)).mp z))]
        have hsp := hB.2.2.1
        obtain ⟨ps1, c1, c2⟩ := e12_adds (p := pcs) hN hq hP b1 (by omega) hM (by omega)
        rw [c1, Option.bind_some]
        dsimp only
        rw [e12_endsPiece (by omega), Option.bind_some]
        unfold fX12_laysPieces_153
        rw [nI_1, hsb, Option.bind_some]
        have hT : (tkR q pcs T (a + 1) (b - (a + 1))).2.2 = T.2.2 + (b - (a + 1)) := tkR_S q pcs _ T (a + 1)
        have key : tkB q T pcs (a + 1) (l - (a + 1)) = tkB q (tkR q pcs T (a + 1) (b - (a + 1))) (pcs + 1) (b + 1) (l - (b + 1)) := by
          have := tkB_piece (q := q) (pcs := pcs) (k := l - b) (c := b - (a + 1) - 1) (T := T) (a := a + 1) (by omega) (by rw [show a + 1 - 1 = a by omega]; exact h1s) (fun j j1 j2 => b4 j j1 (by omega))
          rw [show b - (a + 1) - 1 + 1 = b - (a + 1) by omega, show b - (a + 1) + (l - b) = l - (a + 1) by omega, show a + 1 + (b - (a + 1)) = b by omega] at this
          rw [this, hstep]
        have hB' := BRel_next (q := q) (a := a + 1) (c := b - (a + 1) - 1) hB
        rw [show b - (a + 1) - 1 + 1 = b - (a + 1) by omega] at hB'
        rw [key, ← hT]
        exact ih b _ (pcs + 1) ps1 _ _ b2 b3 (by omega) c2 (by rw [hT]; exact hB') (by omega)
theorem e12_pieces_29 {N P : Nat} {f ps pf : Nat → Int32} {q : Nat → Nat} {x1 x2 v1 v2 : Int32} (hq : PT q P) (hP : PA f 430 q P) : ∀ K i, i ≤ P → i + 1 ≤ K → fX12_laysPieces_29 N f K x1 x2 (nI i - 1) v1 v2 ps pf = fX12_laysPieces_54 N f x1 x2 (nI (lst_ q i) - 1) v1 v2 ps pf := by
  have h12 := hq.2.1
  intro K
  induction K with
  | zero => intro i h1 h2; omega
  | succ K ih =>
    intro i h1 h2
    rw [fX12_laysPieces_29]
    cases i with
    | zero => rw [if_pos (by decide)]; rfl
    | succ i =>
      have hf := hP.2 i (by omega)
      have hqi := hq.2.2 i (by omega)
      rw [nI_pred, if_neg (show ¬ nI i < (0 : Int32) from nI_nlt (b := 0) (by omega) (by omega)), a431, gi (by omega) (by decide), nI_clamp (by omega), show (431 : Nat) + i = 430 + 1 + i by omega, hf, lst_]
      by_cases hs : q i = 42
      · rw [if_pos (by rw [hs]; rfl), if_pos hs, nI_pred]
      · rw [if_neg (show ¬ nI (q i) = (42 : Int32) from fun z => hs ((nI_eq (b := 42) (by omega) (by decide)).mp z)), if_neg hs, show nI i + (-1) = nI i - 1 from (Int32.sub_eq_add_neg _ _).symm]
        exact ih i (by omega) (by omega)
theorem e12_pieces_54 {N P : Nat} {f ps pf : Nat → Int32} {q : Nat → Nat} {x1 x2 v1 v2 : Int32} {l : Nat} (hl : l ≤ 12) : fX12_laysPieces_54 N f x1 x2 (nI l - 1) v1 v2 ps pf = fX12_laysPieces_66 N f (nI l) x1 x2 (nI l - 1) v1 v2 ps pf := by
  unfold fX12_laysPieces_54
  cases l with
  | zero => rw [if_neg (by decide)]; rfl
  | succ l =>
    rw [nI_pred, if_pos (show (0 : Int32) ≤ nI l from nI_le (a := 0) (by omega) (by omega)), nI_1]
theorem BRel_first {T : TK} {pf : Nat → Int32} (h0 : pf 0 = 0) (hS : 1 ≤ T.2.2) (hz : ∀ j, T.2.1 j = 0) : BRel T 1 (upd pf 1 (nI T.2.2)) (fun p => if p = 0 then 0 else T.2.2) := by
  refine ⟨rfl, rfl, hS, fun p hp => ?_, fun p hp => ?_, fun p hp j _ _ => by rw [hz]; omega⟩
  · rcases (show p = 0 ∨ p = 1 by omega) with rfl | rfl
    · rw [pk_un (by omega), h0]; rfl
    · rw [pk_us]; rfl
  · obtain rfl : p = 0 := by omega
    exact hS
theorem TKa_z (q : Nat → Nat) (P : Nat) : ∀ j, (TKa q P).2.1 j = 0 := fun j => by
  have := tkR_z q (P - lst_ q P) TK0 (lst_ q P) (fun _ => rfl) j
  unfold TKa tk1 un; dsimp only
  split
  · rfl
  · exact this
/-- the reference's laysPieces -/
theorem e12_laysPieces {N P : Nat} {f ps pf : Nat → Int32} {q : Nat → Nat} {v1 v2 : Int32} (hN : 1000 ≤ N) (hq : PT q P) (hP : PA f 430 q P) (h0 : pf 0 = 0) : ∃ ps' pf' bd, fX12_laysPieces N v1 v2 f ps pf = some (nI (TKf q P).2, nI (TKf q P).1.2.2, ps', pf') ∧ MR (TKf q P).1 ps' ∧ BRel (TKf q P).1 (TKf q P).2 pf' bd := by
  have h12 := hq.2.1
  have f1 := fst_le q P
  have l1 := lst_le q P
  unfold fX12_laysPieces
  rw [show (430 : Int32) = nI 430 from rfl, gi (by decide) (by decide), nI_clamp (by decide), hP.1, show fX12_starBehind N f 0 = some (nI (fst_ q P)) from e12_starBehind (a := 0) hN hq hP (Nat.zero_le _) f1 (fun z => fst_star z) (fun j _ j2 => fst_no j2), Option.bind_some, e12_pieces_29 hq hP N P (Nat.le_refl P) (by omega), e12_pieces_54 (P := P) (q := q) (by omega)]
  unfold fX12_laysPieces_66
  have hM0 : MR TK0 ps := fun j hj => absurd hj (Nat.not_lt_zero j)
  have s0 : TK0.2.2 = 0 := rfl
  obtain ⟨ps1, a1, a2⟩ := e12_adds (p := 0) hN hq hP l1 (Nat.le_refl P) hM0 (by omega)
  change fX12_adds N 0 f ps (nI (lst_ q P)) (nI P) = _ at a1
  have s1 := tkR_S q 0 (P - lst_ q P) TK0 (lst_ q P)
  have a3 := MR_1 a2 36 0
  change MR (TKa q P) _ at a3
  have sa := TKa_S q P
  rw [a1, Option.bind_some]
  dsimp only
  rw [s0, Nat.zero_add, gi (by omega) (by decide), nI_clamp (by omega), nI_1, ← sa]
  rw [s1, s0, Nat.zero_add] at a3
  unfold TKf
  by_cases hf : fst_ q P < P
  · have fl := fst_lst hf
    obtain ⟨ps2, c1, c2⟩ := e12_adds (a := 0) (p := 0) hN hq hP (Nat.zero_le _) f1 a3 (by omega)
    rw [if_neg (nI_ge (by omega) (by omega)), if_pos hf, show fX12_adds N (nI (TKa q P).2.2) f (upd ps1 (P - lst_ q P) 36) 0 (nI (fst_ q P)) = _ from c1, Option.bind_some]
    dsimp only
    unfold fX12_laysPieces_102
    rw [show fX12_endsPiece 0 (nI ((TKa q P).2.2 + (fst_ q P - 0))) pf = _ from e12_endsPiece (p := 0) (by omega), Option.bind_some]
    dsimp only
    rw [show nI (lst_ q P) - 1 = nI (lst_ q P - 1) from pk_sub (b := 1) (by omega)]
    have hT : (tkR q 0 (TKa q P) 0 (fst_ q P)).2.2 = (TKa q P).2.2 + (fst_ q P - 0) := by rw [tkR_S]; omega
    rw [← hT]
    exact e12_pieces_109 hN hq hP (by omega) (lst_star q P (by omega)) N (fst_ q P) (tkR q 0 (TKa q P) 0 (fst_ q P)) 1 ps2 _ _ (by omega) (fst_star hf) (by omega) c2 (BRel_first h0 (by omega) (tkR_z q _ _ _ (TKa_z q P))) (by omega)
  · rw [if_pos (nI_le (by omega) (by omega)), if_neg hf]
    unfold fX12_laysPieces_102
    rw [show fX12_endsPiece 0 (nI (TKa q P).2.2) pf = _ from e12_endsPiece (p := 0) (by omega), Option.bind_some]
    dsimp only
    obtain ⟨M, rfl⟩ : ∃ M, N = M + 1 := ⟨N - 1, by omega⟩
    rw [lst_fst hf] at a3 ⊢
    rw [fX12_laysPieces_109, if_pos (Int32.le_trans (show nI 0 - 1 ≤ nI 0 by decide) (nI_le (Nat.zero_le _) (by omega)))]
    exact ⟨_, _, _, rfl, a3, BRel_first h0 (by omega) (TKa_z q P)⟩
/-- a run as the reference lays it -/
def MRun (rf rl rp : Nat → Int32) (pc o s : Nat → Nat) (r : Nat) : Prop := rf r = nI (o r) ∧ rl r = nI (s r) ∧ rp r = nI (pc (o r))
theorem e12_runs_28 {N p : Nat} {f ps pf : Nat → Int32} {T : TK} {pcs : Nat} {bd : Nat → Nat} {v1 v2 : Int32} (rc : Int32 → Int32 → Int32 → Int32 → (Nat → Int32) → (Nat → Int32) → (Nat → Int32) → (Nat → Int32) → (Nat → Int32) → Option (Int32 × Int32 × Int32 × (Nat → Int32) × (Nat → Int32) × (Nat → Int32) × (Nat → Int32) × (Nat → Int32))) (hM : MR T ps) (hB : BRel T pcs pf bd) (hz : ∀ j, j < T.2.2 → okz (T.1 j)) (hS : T.2.2 ≤ 13) (hp : p < pcs) (hle : bd (p + 1) ≤ T.2.2) : ∀ K i x2 vr rf rl rp, bd p ≤ i → i ≤ bd (p + 1) → bd (p + 1) + 2 ≤ K + i → ((x2 = -1 ∧ vr = nI (cu T.1 T.2.1 i).1 ∧ (∀ r, r < (cu T.1 T.2.1 i).1 → MRun rf rl rp T.2.1 (cu T.1 T.2.1 i).2.1 (cu T.1 T.2.1 i).2.2.1 r) ∧ ((cu T.1 T.2.1 i).2.2.2 = false ∨ i = bd p)) ∨ (∃ fr, x2 = nI fr ∧ (cu T.1 T.2.1 i).2.2.2 = true ∧ bd p ≤ fr ∧ fr < i ∧ fr = (cu T.1 T.2.1 i).2.1 ((cu T.1 T.2.1 i).1 - 1) ∧ vr = nI ((cu T.1 T.2.1 i).1 - 1) ∧ ∀ r, r < (cu T.1 T.2.1 i).1 - 1 → MRun rf rl rp T.2.1 (cu T.1 T.2.1 i).2.1 (cu T.1 T.2.1 i).2.2.1 r)) → ∃ rf' rl' rp', fX12_laysRuns_28 N f rc K (nI p) x2 (nI i) v1 v2 vr ps pf rf rl rp = rc (nI (p + 1)) v1 v2 (nI (cu T.1 T.2.1 (bd (p + 1))).1) ps pf rf' rl' rp' ∧ ∀ r, r < (cu T.1 T.2.1 (bd (p + 1))).1 → MRun rf' rl' rp' T.2.1 (cu T.1 T.2.1 (bd (p + 1))).2.1 (cu T.1 T.2.1 (bd (p + 1))).2.2.1 r := by
  obtain ⟨q1, q2, q3, q4, q5, q6⟩ := hB
  have hpf := q4 (p + 1) (by omega)
  have exit : ∀ K vr rf rl rp, fX12_laysRuns_28 N f rc (K + 1) (nI p) (-1) (nI (bd (p + 1) + 1)) v1 v2 vr ps pf rf rl rp = rc (nI (p + 1)) v1 v2 vr ps pf rf rl rp := fun K vr rf rl rp => by
    rw [fX12_laysRuns_28, nI_1, gi (by omega) (by decide), nI_clamp (by omega), hpf, if_pos (nI_lt (by omega) (by omega))]
  intro K
  induction K with
  | zero => intro i x2 vr rf rl rp h1 h2 h3; omega
  | succ K ih =>
    intro i x2 vr rf rl rp h1 h2 h3 h4
    have hci := cu_ok T.1 T.2.1 i
    rw [fX12_laysRuns_28, nI_1, gi (by omega) (by decide), gi (by omega) (by decide), nI_clamp (by omega), hpf, if_neg (nI_nlt h2 (by omega))]
    by_cases hi : bd (p + 1) ≤ i
    · obtain rfl : i = bd (p + 1) := by omega
      rw [if_pos (nI_le hi (by omega))]
      unfold fX12_laysRuns_67 fX12_laysRuns_68
      rw [if_pos rfl]
      unfold fX12_laysRuns_82
      rw [if_pos rfl]
      obtain ⟨K, rfl⟩ : ∃ K', K = K' + 1 := ⟨K - 1, by omega⟩
      rcases h4 with ⟨rfl, rfl, h5, -⟩ | ⟨fr, rfl, g1, g2, g3, g4, rfl, g5⟩
      · rw [if_pos rfl, nI_1, exit]
        exact ⟨rf, rl, rp, rfl, h5⟩
      · rw [if_neg (nI_m1 (by omega)), gi (by have := hci.1; omega) (by decide), gi (by have := hci.1; omega) (by decide), gi (by have := hci.1; omega) (by decide), nI_1, nI_1, exit]
        obtain ⟨r1, r2⟩ := hci.2.2 g1
        rw [nI_clamp (by have := hci.1; omega), show (cu T.1 T.2.1 (bd (p + 1))).1 - 1 + 1 = (cu T.1 T.2.1 (bd (p + 1))).1 by omega]
        refine ⟨_, _, _, rfl, fun r hr => ?_⟩
        by_cases e : r = (cu T.1 T.2.1 (bd (p + 1))).1 - 1
        · rw [e]
          refine ⟨by rw [pk_us, g4], by rw [pk_us, pk_sub (by omega)]; congr 1; omega, by rw [pk_us, ← g4, q6 p hp fr g2 g3]⟩
        · obtain ⟨m1, m2, m3⟩ := g5 r (by omega)
          exact ⟨by rw [pk_un e]; exact m1, by rw [pk_un e]; exact m2, by rw [pk_un e]; exact m3⟩
    · have hzi := hM i (by omega)
      have hok := hz i (by omega)
      have hpci := q6 p hp i h1 (by omega)
      have hx128 : T.1 i < 128 := by unfold okz at hok; omega
      rw [if_neg (nI_ge (by omega) (by omega)), gi (by omega) (by decide), nI_clamp (by omega), hzi]
      have ih' := fun x2 vr rf rl rp h => ih (i + 1) x2 vr rf rl rp (by omega) (by omega) (by omega) h
      rw [cu] at ih'
      generalize hC : cu T.1 T.2.1 i = C at hci h4 ih'
      obtain ⟨R, o, s, ir⟩ := C
      obtain ⟨c1, c2, c3⟩ := hci
      dsimp only at c1 c2 c3 h4
      unfold cuS at ih'
      dsimp only at ih'
      by_cases h63 : T.1 i = 63
      · rw [if_pos (by rw [h63]; rfl)]
        unfold fX12_laysRuns_67 fX12_laysRuns_68
        rw [if_pos rfl]
        unfold fX12_laysRuns_82
        rw [if_pos rfl]
        rw [if_pos h63] at ih'
        rcases h4 with ⟨rfl, rfl, h5, h6⟩ | ⟨fr, rfl, g1, g2, g3, g4, rfl, g5⟩
        · rw [if_pos rfl, nI_1]
          exact ih' _ _ rf rl rp (Or.inl ⟨rfl, rfl, h5, Or.inl rfl⟩)
        · obtain ⟨r1, r2⟩ := c3 g1
          rw [if_neg (nI_m1 (by omega)), gi (by omega) (by decide), gi (by omega) (by decide), gi (by omega) (by decide), nI_1, nI_1, nI_clamp (by omega), show R - 1 + 1 = R by omega]
          refine ih' _ _ _ _ _ (Or.inl ⟨rfl, rfl, fun r hr => ?_, Or.inl rfl⟩)
          dsimp only at hr ⊢
          by_cases e : r = R - 1
          · rw [e]
            refine ⟨by rw [pk_us, g4], by rw [pk_us, pk_sub (by omega)]; congr 1; omega, by rw [pk_us, ← g4, q6 p hp fr g2 (by omega)]⟩
          · obtain ⟨m1, m2, m3⟩ := g5 r (by omega)
            exact ⟨by rw [pk_un e]; exact m1, by rw [pk_un e]; exact m2, by rw [pk_un e]; exact m3⟩
      · rw [if_neg (show ¬ nI (T.1 i) = (63 : Int32) from fun z => h63 ((nI_eq (b := 63) (by omega) (by decide)).mp z))]
        unfold fX12_laysRuns_68
        rw [if_neg (by decide)]
        rw [if_neg h63, hpci] at ih'
        rcases h4 with ⟨rfl, rfl, h5, h6⟩ | ⟨fr, rfl, g1, g2, g3, g4, rfl, g5⟩
        · rw [if_pos rfl]
          unfold fX12_laysRuns_82
          rw [if_neg (by decide), nI_1]
          have hno : ¬ (ir = true ∧ nwP T.2.1 i p = false) := by
            rintro ⟨a, b⟩
            rcases h6 with h6 | h6
            · rw [a] at h6; cases h6
            · unfold nwP at b
              rw [decide_eq_false_iff_not] at b
              apply b
              by_cases h00 : i = 0
              · exact Or.inl h00
              · refine Or.inr ?_
                have hp0 : p ≠ 0 := fun z => by rw [z, q1] at h6; omega
                have := q6 (p - 1) (by omega) (i - 1) (by have := q5 (p - 1) (by omega); rw [show p - 1 + 1 = p by omega] at this; omega) (by rw [show p - 1 + 1 = p by omega]; omega)
                omega
          rw [if_neg hno] at ih'
          refine ih' _ _ rf rl rp (Or.inr ⟨i, rfl, rfl, h1, by omega, ?_, ?_, fun r hr => ?_⟩)
          · dsimp only; rw [show R + 1 - 1 = R by omega, un_s]
          · dsimp only; rw [show R + 1 - 1 = R by omega]
          · dsimp only at hr ⊢
            rw [show R + 1 - 1 = R by omega] at hr
            obtain ⟨m1, m2, m3⟩ := h5 r hr
            exact ⟨by rw [un_n (by omega)]; exact m1, by rw [un_n (by omega)]; exact m2, by rw [un_n (by omega)]; exact m3⟩
        · rw [if_neg (nI_m1 (by omega))]
          unfold fX12_laysRuns_82
          rw [if_neg (by decide), nI_1]
          obtain ⟨r1, r2⟩ := c3 g1
          have hyes : ir = true ∧ nwP T.2.1 i p = false := ⟨g1, by
            unfold nwP
            rw [decide_eq_false_iff_not]
            have := q6 p hp (i - 1) (by omega) (by omega)
            omega⟩
          rw [if_pos hyes] at ih'
          refine ih' _ _ rf rl rp (Or.inr ⟨fr, rfl, rfl, g2, by omega, g4, rfl, fun r hr => ?_⟩)
          dsimp only at hr ⊢
          obtain ⟨m1, m2, m3⟩ := g5 r hr
          exact ⟨m1, by rw [un_n (by omega)]; exact m2, m3⟩
theorem BRel_le {T : TK} {pcs : Nat} {pf : Nat → Int32} {bd : Nat → Nat} (hB : BRel T pcs pf bd) : ∀ n p, p + n = pcs → bd p ≤ T.2.2 := by
  obtain ⟨h1, h2, h3, h4, h5, h6⟩ := hB
  intro n
  induction n with
  | zero => intro p hp; rw [show p = pcs by omega, h2]; exact Nat.le_refl _
  | succ n ih => intro p hp; have := ih (p + 1) (by omega); have := h5 p (by omega); omega
theorem e12_runs_11 {N : Nat} {f ps pf : Nat → Int32} {T : TK} {pcs : Nat} {bd : Nat → Nat} {v2 : Int32} (hN : 1000 ≤ N) (hM : MR T ps) (hB : BRel T pcs pf bd) (hz : ∀ j, j < T.2.2 → okz (T.1 j)) (hS : T.2.2 ≤ 13) : ∀ K p rf rl rp, p ≤ pcs → pcs + 1 ≤ K + p → (∀ r, r < (cu T.1 T.2.1 (bd p)).1 → MRun rf rl rp T.2.1 (cu T.1 T.2.1 (bd p)).2.1 (cu T.1 T.2.1 (bd p)).2.2.1 r) → ∃ rf' rl' rp', fX12_laysRuns_11 N f K (nI p) (nI pcs) v2 (nI (cu T.1 T.2.1 (bd p)).1) ps pf rf rl rp = some (nI pcs, v2, nI (cuT T).1, ps, pf, rf', rl', rp') ∧ ∀ r, r < (cuT T).1 → MRun rf' rl' rp' T.2.1 (cuT T).2.1 (cuT T).2.2.1 r := by
  have hBl := BRel_le hB
  have h3 := hB.2.2.1
  intro K
  induction K with
  | zero => intro p rf rl rp h1 h2; omega
  | succ K ih =>
    intro p rf rl rp h1 h2 h4
    rw [fX12_laysRuns_11]
    by_cases hp : pcs ≤ p
    · rw [if_pos (nI_le hp (by omega))]
      have e : bd p = T.2.2 := by rw [show p = pcs by omega]; exact hB.2.1
      rw [e] at h4 ⊢
      exact ⟨rf, rl, rp, rfl, h4⟩
    · rw [if_neg (nI_ge (by omega) (by omega)), gi (by omega) (by decide), nI_clamp (by omega), hB.2.2.2.1 p h1]
      have b2 := hBl (pcs - (p + 1)) (p + 1) (by omega)
      have b1 := hB.2.2.2.2.1 p (by omega)
      obtain ⟨rf1, rl1, rp1, e1, e2⟩ := e12_runs_28 (N := N) (f := f) (v1 := nI pcs) (v2 := v2) (fX12_laysRuns_11 N f K) hM hB hz hS (p := p) (by omega) b2 N (bd p) (-1) _ rf rl rp (Nat.le_refl _) (by omega) (by omega) (Or.inl ⟨rfl, rfl, h4, Or.inr rfl⟩)
      rw [e1]
      exact ih (p + 1) rf1 rl1 rp1 (by omega) (by omega) e2
/-- the reference's laysRuns -/
theorem e12_laysRuns {N P : Nat} {f ps pf rf rl rp : Nat → Int32} {q : Nat → Nat} {v1 v2 v3 : Int32} (hN : 1000 ≤ N) (hq : PT q P) (hP : PA f 430 q P) (h0 : pf 0 = 0) (hz : ∀ j, j < (TKf q P).1.2.2 → okz ((TKf q P).1.1 j)) : ∃ ps' pf' rf' rl' rp', fX12_laysRuns N v1 v2 v3 f ps pf rf rl rp = some (nI (TKf q P).2, nI (TKf q P).1.2.2, nI (cuT (TKf q P).1).1, ps', pf', rf', rl', rp') ∧ pf' 0 = 0 ∧ MR (TKf q P).1 ps' ∧ ∀ r, r < (cuT (TKf q P).1).1 → MRun rf' rl' rp' (TKf q P).1.2.1 (cuT (TKf q P).1).2.1 (cuT (TKf q P).1).2.2.1 r := by
  obtain ⟨ps', pf', bd, a1, a2, a3⟩ := e12_laysPieces (v1 := v1) (v2 := v2) hN hq hP h0
  unfold fX12_laysRuns
  rw [a1, Option.bind_some]
  dsimp only
  have hS := TKf_S hq
  have b0 : bd 0 = 0 := a3.1
  obtain ⟨rf', rl', rp', e1, e2⟩ := e12_runs_11 (v2 := nI (TKf q P).1.2.2) hN a2 a3 hz hS N 0 rf rl rp (Nat.zero_le _) (by have := a3.2.2.1; omega) (fun r hr => by rw [b0] at hr; exact absurd hr (Nat.not_lt_zero r))
  rw [b0] at e1
  refine ⟨ps', pf', rf', rl', rp', e1, ?_, a2, e2⟩
  rw [a3.2.2.2.1 0 (Nat.zero_le _), b0]; rfl
