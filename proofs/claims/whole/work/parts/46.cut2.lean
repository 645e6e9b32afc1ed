/-! ===== the class cuts a pattern ===== -/
theorem e5_at {P i : Nat} {g : Nat → Int32} {q : Nat → Nat} (hq : PT q P) (hS : SA g q P) (hi : i < P) : fX5_at (nI P) g (nI i) = some (nI (q i)) := by
  have := hq.2.1
  unfold fX5_at fX5_hasPlace
  rw [if_neg (show ¬ nI i < (0 : Int32) from nI_nlt (b := 0) (by omega) (by omega)), if_neg (nI_ge (by omega) (by omega)), Option.bind_some, if_neg (by decide), gi (by omega) (by decide), nI_clamp (by omega), hS i hi]
/-- the first star, or the end -/
def fst_ (q : Nat → Nat) (P : Nat) : Nat := fa_first (fun i => q i == 42) P
/-- the place behind the last star, or 0 -/
def lst_ (q : Nat → Nat) : Nat → Nat
  | 0 => 0
  | n + 1 => if q n = 42 then n + 1 else lst_ q n
theorem lst_le (q : Nat → Nat) : ∀ n, lst_ q n ≤ n
  | 0 => Nat.le_refl 0
  | n + 1 => by have := lst_le q n; rw [lst_]; split <;> omega
theorem lst_star (q : Nat → Nat) : ∀ n, 0 < lst_ q n → q (lst_ q n - 1) = 42
  | 0, h => by exact absurd h (Nat.lt_irrefl 0)
  | n + 1, h => by
    rw [lst_] at h ⊢
    split
    · assumption
    · rename_i hs; rw [if_neg hs] at h; exact lst_star q n h
theorem lst_no (q : Nat → Nat) : ∀ n j, lst_ q n ≤ j → j < n → q j ≠ 42
  | 0, j, h1, h2 => by omega
  | n + 1, j, h1, h2 => by
    rw [lst_] at h1
    by_cases hs : q n = 42
    · rw [if_pos hs] at h1; omega
    · rw [if_neg hs] at h1
      by_cases hj : j = n
      · rw [hj]; exact hs
      · exact lst_no q n j h1 (by omega)
theorem fst_le (q : Nat → Nat) (P : Nat) : fst_ q P ≤ P := fa_first_le _ P
theorem fst_no {q : Nat → Nat} {P j : Nat} (h : j < fst_ q P) : q j ≠ 42 := by
  have := fa_first_no _ P j h
  simpa using this
theorem fst_star {q : Nat → Nat} {P : Nat} (h : fst_ q P < P) : q (fst_ q P) = 42 := by
  have := fa_first_yes _ P h
  exact eq_of_beq this
theorem fst_lst {q : Nat → Nat} {P : Nat} (h : fst_ q P < P) : fst_ q P + 1 ≤ lst_ q P := Classical.byContradiction fun z => lst_no q P (fst_ q P) (by omega) h (fst_star h)
theorem lst_fst {q : Nat → Nat} {P : Nat} (h : ¬ fst_ q P < P) : lst_ q P = 0 := Classical.byContradiction fun z => by
  have h1 := lst_star q P (by omega)
  have h2 := lst_le q P
  exact fst_no (q := q) (P := P) (j := lst_ q P - 1) (by omega) h1
theorem e1_firstStar_l {N P : Nat} {g : Nat → Int32} {q : Nat → Nat} (hq : PT q P) (hS : SA g q P) : ∀ K i, i ≤ fst_ q P → P + 1 ≤ K + i → fX1_firstStar_2 N (nI P) g K (nI i) = some (if fst_ q P < P then nI (fst_ q P) else -1) := by
  have h12 := hq.2.1
  have hle := fst_le q P
  intro K
  induction K with
  | zero => intro i h1 h2; omega
  | succ K ih =>
    intro i h1 h2
    rw [fX1_firstStar_2]
    unfold fX5_size
    rw [Option.bind_some]
    by_cases hi : P ≤ i
    · rw [if_pos (nI_le hi (by omega)), if_neg (by omega)]
    · rw [if_neg (nI_ge (by omega) (by omega)), e5_at hq hS (by omega), Option.bind_some]
      have hqi := hq.2.2 i (by omega)
      by_cases hs : q i = 42
      · rw [if_pos (by rw [hs]; rfl)]
        have : i = fst_ q P := Classical.byContradiction fun z => fst_no (q := q) (P := P) (j := i) (by omega) hs
        rw [← this, if_pos (by omega)]
      · rw [if_neg (show ¬ nI (q i) = (42 : Int32) from fun z => hs ((nI_eq (b := 42) (by omega) (by decide)).mp z)), nI_1]
        exact ih (i + 1) (by
          by_cases z : i = fst_ q P
          · exact absurd (fst_star (q := q) (P := P) (by omega)) (by rw [← z]; exact hs)
          · omega) (by omega)
theorem e1_firstStar {N P : Nat} {g : Nat → Int32} {q : Nat → Nat} (hN : 1000 ≤ N) (hq : PT q P) (hS : SA g q P) : fX1_firstStar N (nI P) g = some (if fst_ q P < P then nI (fst_ q P) else -1) := by
  have := hq.2.1
  unfold fX1_firstStar
  exact e1_firstStar_l hq hS N 0 (by omega) (by omega)
theorem e1_lastStar_l {N P : Nat} {g : Nat → Int32} {q : Nat → Nat} (hq : PT q P) (hS : SA g q P) : ∀ K i, i ≤ P → i + 1 ≤ K → fX1_lastStar_7 N (nI P) g K (nI i - 1) = some (nI (lst_ q i) - 1) := by
  have h12 := hq.2.1
  intro K
  induction K with
  | zero => intro i h1 h2; omega
  | succ K ih =>
    intro i h1 h2
    rw [fX1_lastStar_7]
    cases i with
    | zero => rw [if_pos (by decide)]; rfl
    | succ i =>
      rw [nI_pred, if_neg (show ¬ nI i < (0 : Int32) from nI_nlt (b := 0) (by omega) (by omega)), e5_at hq hS (by omega), Option.bind_some]
      have hqi := hq.2.2 i (by omega)
      rw [lst_]
      by_cases hs : q i = 42
      · rw [if_pos (by rw [hs]; rfl), if_pos hs, nI_pred]
      · rw [if_neg (show ¬ nI (q i) = (42 : Int32) from fun z => hs ((nI_eq (b := 42) (by omega) (by decide)).mp z)), if_neg hs]
        rw [show nI i + (-1) = nI i - 1 from (Int32.sub_eq_add_neg _ _).symm]
        exact ih i (by omega) (by omega)
theorem e1_lastStar {N P : Nat} {g : Nat → Int32} {q : Nat → Nat} (hN : 1000 ≤ N) (hq : PT q P) (hS : SA g q P) : fX1_lastStar N (nI P) g = some (nI (lst_ q P) - 1) := by
  have := hq.2.1
  unfold fX1_lastStar fX5_size
  rw [Option.bind_some]
  exact e1_lastStar_l hq hS N P (by omega) (by omega)
/-- the signs of a part laid down -/
def tkR (q : Nat → Nat) (p : Nat) : TK → Nat → Nat → TK
  | T, _, 0 => T
  | T, a, k + 1 => tkR q p (tk1 T (q a) p) (a + 1) k
theorem tkR_S (q : Nat → Nat) (p : Nat) : ∀ k T a, (tkR q p T a k).2.2 = T.2.2 + k
  | 0, T, a => rfl
  | k + 1, T, a => by rw [tkR, tkR_S q p k]; unfold tk1; dsimp only; omega
/-- what is between the first star and the last -/
def tkB (q : Nat → Nat) : TK → Nat → Nat → Nat → TK × Nat
  | T, pcs, _, 0 => (T, pcs)
  | T, pcs, a, k + 1 => if q a = 42 then tkB q T pcs (a + 1) k else if q (a - 1) = 42 then tkB q (tk1 T (q a) pcs) (pcs + 1) (a + 1) k else tkB q (tk1 T (q a) (pcs - 1)) pcs (a + 1) k
def TK0 : TK := (fun _ => 0, fun _ => 0, 0)
def TKa (q : Nat → Nat) (P : Nat) : TK := tk1 (tkR q 0 TK0 (lst_ q P) (P - lst_ q P)) 36 0
def TKf (q : Nat → Nat) (P : Nat) : TK × Nat := if fst_ q P < P then tkB q (tkR q 0 (TKa q P) 0 (fst_ q P)) 1 (fst_ q P + 1) (lst_ q P - 1 - (fst_ q P + 1)) else (TKa q P, 1)
theorem okz_q {q : Nat → Nat} {P i : Nat} (hq : PT q P) (hi : i < P) (h : q i ≠ 42) : okz (q i) := by
  have := hq.2.2 i hi
  unfold okz; omega
theorem e1_layPart_l {N P b pcs : Nat} {g : Nat → Int32} {q : Nat → Nat} {y : Int32} (hq : PT q P) (hS : SA g q P) (hb : b ≤ P) : ∀ K i T c, i ≤ b → b + 1 ≤ K + i → CR T pcs c → T.2.2 + (b - i) ≤ 13 → (∀ j, i ≤ j → j < b → q j ≠ 42) → ∃ c', fX1_layPart_3 N (nI pcs) (nI P) g y (nI b) K (nI i) c.1 c.2.1 c.2.2.1 c.2.2.2.1 c.2.2.2.2.1 c.2.2.2.2.2.1 c.2.2.2.2.2.2.1 c.2.2.2.2.2.2.2 = some c' ∧ CR (tkR q (pcs - 1) T i (b - i)) pcs c' := by
  have h12 := hq.2.1
  intro K
  induction K with
  | zero => intro i T c h1 h2; omega
  | succ K ih =>
    intro i T c h1 h2 h3 h4 h5
    rw [fX1_layPart_3]
    by_cases hi : b ≤ i
    · rw [if_pos (nI_le hi (by omega)), show b - i = 0 by omega, tkR]
      exact ⟨_, rfl, h3⟩
    · rw [if_neg (nI_ge (by omega) (by omega)), e5_at hq hS (by omega), Option.bind_some]
      obtain ⟨c1, d1, d2⟩ := e1_laySign (x := q i) h3 (okz_q hq (by omega) (h5 i (by omega) (by omega))) (by omega)
      rw [d1, Option.bind_some, nI_1]
      obtain ⟨c', e1, e2⟩ := ih (i + 1) _ _ (by omega) (by omega) d2 (by unfold tk1; dsimp only; omega) (fun j j1 j2 => h5 j (by omega) j2)
      refine ⟨c', e1, ?_⟩
      rw [show b - i = (b - (i + 1)) + 1 by omega, tkR]
      exact e2
theorem e1_layPart {N P a b pcs : Nat} {g : Nat → Int32} {q : Nat → Nat} {T : TK} {c : CS} (hN : 1000 ≤ N) (hq : PT q P) (hS : SA g q P) (hb : b ≤ P) (hab : a ≤ b) (h3 : CR T pcs c) (h4 : T.2.2 + (b - a) ≤ 13) (h5 : ∀ j, a ≤ j → j < b → q j ≠ 42) : ∃ c', fX1_layPart N c.1 c.2.1 (nI pcs) c.2.2.1 c.2.2.2.1 c.2.2.2.2.1 c.2.2.2.2.2.1 c.2.2.2.2.2.2.1 c.2.2.2.2.2.2.2 (nI P) g (nI a) (nI b) = some c' ∧ CR (tkR q (pcs - 1) T a (b - a)) pcs c' := by
  have h12 := hq.2.1
  unfold fX1_layPart
  exact e1_layPart_l hq hS hb N a T c hab (by omega) h3 h4 h5
theorem e1_between_l {N P b : Nat} {g : Nat → Int32} {q : Nat → Nat} {y : Int32} (hq : PT q P) (hS : SA g q P) (hb : b ≤ P) : ∀ K i T pcs c, 1 ≤ i → i ≤ b + 1 → b + 2 ≤ K + i → CR T pcs c → T.2.2 + (b - i) ≤ 13 → ∃ c' : CS, fX1_layBetween_5 N (nI P) g y (nI b) K (nI i) c.1 c.2.1 (nI pcs) c.2.2.1 c.2.2.2.1 c.2.2.2.2.1 c.2.2.2.2.2.1 c.2.2.2.2.2.2.1 c.2.2.2.2.2.2.2 = some (c'.1, c'.2.1, nI (tkB q T pcs i (b - i)).2, c'.2.2) ∧ CR (tkB q T pcs i (b - i)).1 (tkB q T pcs i (b - i)).2 c' := by
  have h12 := hq.2.1
  intro K
  induction K with
  | zero => intro i T pcs c h0 h1 h2; omega
  | succ K ih =>
    intro i T pcs c h0 h1 h2 h3 h4
    rw [fX1_layBetween_5]
    by_cases hi : b ≤ i
    · rw [if_pos (nI_le hi (by omega)), show b - i = 0 by omega, tkB]
      exact ⟨c, rfl, h3⟩
    · have e1 : nI i - 1 = nI (i - 1) := pk_sub (b := 1) h0
      have qi := hq.2.2 i (by omega)
      have qj := hq.2.2 (i - 1) (by omega)
      rw [if_neg (nI_ge (by omega) (by omega)), e5_at hq hS (by omega), Option.bind_some, e1, e5_at hq hS (i := i - 1) (by omega), show b - i = (b - (i + 1)) + 1 by omega, tkB, nI_1]
      by_cases hs : q i = 42
      · rw [if_pos (by rw [hs]; rfl), if_pos hs]
        exact ih (i + 1) T pcs c (by omega) (by omega) (by omega) h3 (by omega)
      · rw [if_neg (show ¬ nI (q i) = (42 : Int32) from fun z => hs ((nI_eq (b := 42) (by omega) (by decide)).mp z)), if_neg hs, Option.bind_some]
        by_cases hp : q (i - 1) = 42
        · rw [if_pos (by rw [hp]; rfl), if_pos hp]
          unfold fX1_beginPiece fX1_layBetween_43
          rw [Option.bind_some]
          dsimp only
          rw [nI_1]
          obtain ⟨c1, d1, d2⟩ := e1_laySign (x := q i) (CR_begin h3) (okz_q hq (by omega) hs) (by omega)
          dsimp only at d1
          rw [d1, Option.bind_some, nI_1]
          exact ih (i + 1) _ (pcs + 1) c1 (by omega) (by omega) (by omega) d2 (by unfold tk1; dsimp only; omega)
        · rw [if_neg (show ¬ nI (q (i - 1)) = (42 : Int32) from fun z => hp ((nI_eq (b := 42) (by omega) (by decide)).mp z)), if_neg hp]
          unfold fX1_layBetween_43
          obtain ⟨c1, d1, d2⟩ := e1_laySign (x := q i) h3 (okz_q hq (by omega) hs) (by omega)
          rw [d1, Option.bind_some, nI_1]
          exact ih (i + 1) _ pcs c1 (by omega) (by omega) (by omega) d2 (by unfold tk1; dsimp only; omega)
/-- Cut.lay -/
theorem e1_lay {N P : Nat} {g : Nat → Int32} {q : Nat → Nat} {v1 v2 v3 v4 : Int32} {c1 c2 c3 c4 : Nat → Int32} {c5 : Nat → Int64} (hN : 1000 ≤ N) (hq : PT q P) (hS : SA g q P) : ∃ c' : CS, fX1_lay N v1 v2 v3 v4 c1 c2 c3 c4 c5 (nI P) g = some (c'.1, c'.2.1, nI (TKf q P).2, c'.2.2) ∧ CR (TKf q P).1 (TKf q P).2 c' := by
  have h12 := hq.2.1
  have f1 := fst_le q P
  have l1 := lst_le q P
  unfold fX1_lay
  rw [e1_firstStar hN hq hS, Option.bind_some, e1_lastStar hN hq hS, Option.bind_some]
  unfold fX1_beginPiece fX5_size
  rw [Option.bind_some, Option.bind_some]
  have e2 : nI (lst_ q P) - 1 + 1 = nI (lst_ q P) := Int32.sub_add_cancel _ _
  rw [e2]
  have h0 : CR TK0 1 ((0 : Int32), (0 : Int32), (0 : Int32), c1, c2, c3, c4, c5) := ⟨Nat.le_refl 1, fun j hj => absurd hj (Nat.not_lt_zero j), 0, fun _ => 0, rfl, Nat.le_refl 0, rfl, rfl, (fun z => by cases z), fun r hr => absurd hr (Nat.not_lt_zero r)⟩
  obtain ⟨ca, a1, a2⟩ := e1_layPart hN hq hS (Nat.le_refl P) l1 h0 (by show 0 + _ ≤ 13; omega) (fun j j1 j2 => lst_no q P j j1 j2)
  dsimp only at a1
  dsimp only
  rw [show (0 : Int32) + 1 = nI 1 from rfl, a1, Option.bind_some]
  have s1 := tkR_S q 0 (P - lst_ q P) TK0 (lst_ q P)
  have s0 : TK0.2.2 = 0 := rfl
  obtain ⟨cb, b1, b2⟩ := e1_laySign (x := 36) a2 (Or.inl rfl) (by show (tkR q 0 TK0 _ _).2.2 ≤ 12; omega)
  rw [show (36 : Int32) = nI 36 from rfl, b1, Option.bind_some]
  have s2 : (TKa q P).2.2 = P - lst_ q P + 1 := by unfold TKa tk1; dsimp only; omega
  change CR (TKa q P) 1 cb at b2
  unfold TKf
  by_cases hf : fst_ q P < P
  · have fl := fst_lst hf
    rw [if_pos hf, if_pos hf]
    obtain ⟨cc, d1, d2⟩ := e1_layPart (a := 0) hN hq hS f1 (Nat.zero_le _) b2 (by omega) (fun j _ j2 => fst_no j2)
    rw [show (0 : Int32) = nI 0 from rfl, d1, Option.bind_some]
    have s3 := tkR_S q 0 (fst_ q P) (TKa q P) 0
    unfold fX1_layBetween
    have e3 : nI (lst_ q P) - 1 = nI (lst_ q P - 1) := pk_sub (b := 1) (by omega)
    rw [nI_1, e3]
    obtain ⟨c', g1, g2⟩ := e1_between_l (N := N) (b := lst_ q P - 1) (y := nI (fst_ q P)) hq hS (by omega) N (fst_ q P + 1) (tkR q 0 (TKa q P) 0 (fst_ q P)) 1 cc (by omega) (by omega) (by omega) d2 (by omega)
    rw [g1, Option.bind_some]
    exact ⟨c', rfl, g2⟩
  · have l0 := lst_fst hf
    rw [if_neg hf, if_neg hf]
    unfold fX1_layPart
    obtain ⟨M, rfl⟩ : ∃ M, N = M + 1 := ⟨N - 1, by omega⟩
    rw [fX1_layPart_3, if_pos (by decide), Option.bind_some, l0]
    unfold fX1_layBetween
    rw [fX1_layBetween_5, if_pos (by decide), Option.bind_some]
    exact ⟨cb, rfl, b2⟩
