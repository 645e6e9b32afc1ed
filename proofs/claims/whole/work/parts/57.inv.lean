/-! ===== what holds between the calls ===== -/
def sI (V : Nat → Int32) (i : Nat) (x : Int32) : Nat → Int32 := fun j => if j = i then x else V j
def sG (G : Nat → Nat → Int32) (i : Nat) (x : Nat → Int32) : Nat → Nat → Int32 := fun j => if j = i then x else G j
def sL (G : Nat → Nat → Int64) (i : Nat) (x : Nat → Int64) : Nat → Nat → Int64 := fun j => if j = i then x else G j
def sN (G : Nat → Nat) (i : Nat) (x : Nat) : Nat → Nat := fun j => if j = i then x else G j
/-- dictionary, edits and pattern, as they lie in the reference from a place on -/
def StF (f : Nat → Int32) (b m : Nat) (d : Nat → Nat) (e : Nat) (fl ew q : Nat → Nat) (P : Nat) : Prop :=
  DA f b d m ∧ (f (b + 321) = nI e ∧ ∀ k, k < e → f (b + 322 + 9 * k) = nI (fl k) ∧ WA f (b + 323 + 9 * k) (ew k)) ∧ PA f (b + 430) q P
/-- the numbers behind a state -/
def StN (m : Nat) (d : Nat → Nat) (e : Nat) (fl ew q : Nat → Nat) (P n : Nat) : Prop := Dic m d ∧ e ≤ 12 ∧ Bat m d fl ew e ∧ PT q P ∧ n ≤ 400
/-- the state of the class -/
def StC (ed ts : Int32) (gt : Nat → Int32) (ds : Int32) (gd : Nat → Int64) (cs : Int32) (gc : Nat → Int64) (ps : Int32) (gp : Nat → Int32) (m : Nat) (d : Nat → Nat) (e : Nat) (fl ew q : Nat → Nat) (P : Nat) (t : Nat → Nat) (n : Nat) : Prop :=
  ed = nI e ∧ ts = nI n ∧ TC gt t n ∧ ds = nI m ∧ Ris gd d m ∧ cs = nI (cm m d fl ew e).1 ∧ Ris gc (cm m d fl ew e).2 (cm m d fl ew e).1 ∧ ps = nI P ∧ SA gp q P
def Fau (fk fp mk mp : Int32) : Prop := mk = fk ∧ mp = fp ∧ (fk = 0 → fp = -1)
theorem StF_move {f g : Nat → Int32} {b c m e P n : Nat} {d fl ew q : Nat → Nat} (hn : StN m d e fl ew q P n) (h : ∀ j, j < 443 → g (c + j) = f (b + j)) (hF : StF f b m d e fl ew q P) : StF g c m d e fl ew q P := by
  obtain ⟨hD, he, hB, hq, -⟩ := hn
  obtain ⟨⟨a1, a2⟩, ⟨a3, a4⟩, a5, a6⟩ := hF
  have h40 := hD.1
  have h12 := hq.2.1
  refine ⟨⟨by have := h 0 (by omega); rw [Nat.add_zero, Nat.add_zero] at this; rw [this]; exact a1, fun w hw => WA_cong (hD.2.2 w hw).2.2.1 (fun i hi => ?_) (a2 w hw)⟩, ⟨by rw [h 321 (by omega)]; exact a3, fun k hk => ⟨?_, WA_cong (hB k hk).1.2.2.1 (fun i hi => ?_) (a4 k hk).2⟩⟩, ?_, fun i hi => ?_⟩
  · rw [show c + 1 + 8 * w + i = c + (1 + 8 * w + i) by omega, h _ (by omega)]; congr 1; omega
  · rw [show c + 322 + 9 * k = c + (322 + 9 * k) by omega, h _ (by omega), show b + (322 + 9 * k) = b + 322 + 9 * k by omega]; exact (a4 k hk).1
  · rw [show c + 323 + 9 * k + i = c + (323 + 9 * k + i) by omega, h _ (by omega)]; congr 1; omega
  · rw [h 430 (by omega)]; exact a5
  · rw [show c + 430 + 1 + i = c + (431 + i) by omega, h _ (by omega), show b + (431 + i) = b + 430 + 1 + i by omega]; exact a6 i hi
/-- an image -/
def ImR (V : Nat → Int32) (GI : Nat → Nat → Int32) (GL : Nat → Nat → Int64) (f : Nat → Int32) (k : Nat) : Prop :=
  ∃ m d e fl ew q P t n, StN m d e fl ew q P n ∧ StC (V (20 + 7 * k)) (V (21 + 7 * k)) (GI (8 + 2 * k)) (V (22 + 7 * k)) (GL (10 + 2 * k)) (V (23 + 7 * k)) (GL (11 + 2 * k)) (V (24 + 7 * k)) (GI (9 + 2 * k)) m d e fl ew q P t n ∧ StF f (2690 + 846 * k) m d e fl ew q P ∧ f (2690 + 846 * k + 843) = nI n ∧ TM (fun i => f (2690 + 846 * k + 443 + i)) t n ∧ Fau (V (25 + 7 * k)) (V (26 + 7 * k)) (f (2690 + 846 * k + 844)) (f (2690 + 846 * k + 845))
/-- the merges that can be undone -/
def UnR (V : Nat → Int32) (GL : Nat → Nat → Int64) (f : Nat → Int32) (u : Nat) : Prop := ∃ (mm : Nat → Nat) (dd : Nat → Nat → Nat), ∀ k, k < u → Dic (mm k) (dd k) ∧ V (8 + k) = nI (mm k) ∧ Ris (GL (2 + k)) (dd k) (mm k) ∧ DA f (1406 + 321 * k) (dd k) (mm k)
/-- the index and the cut -/
def IxR (V : Nat → Int32) (GL : Nat → Nat → Int64) (m : Nat) (d : Nat → Nat) : Prop := ∃ ni W F, IX m d ni W F ∧ V 16 = nI ni ∧ Ris (GL 7) (fun t => ky d (W t) (F t)) ni
/-- the state that is now -/
def NowR (V : Nat → Int32) (GI : Nat → Nat → Int32) (GL : Nat → Nat → Int64) (MV : Nat → Int32) (MG : Nat → Nat → Int32) (m : Nat) (d : Nat → Nat) (e : Nat) (fl ew q : Nat → Nat) (P : Nat) (t : Nat → Nat) (n : Nat) : Prop :=
  StN m d e fl ew q P n ∧ StC (V 0) (V 1) (GI 0) (V 2) (GL 0) (V 3) (GL 1) (V 4) (GI 1) m d e fl ew q P t n ∧ StF (MG 0) 0 m d e fl ew q P ∧ MV 0 = nI n ∧ TM (MG 1) t n ∧ Fau (V 5) (V 6) (MV 1) (MV 2) ∧ IxR V GL m d ∧ CutC q P (V 13) (V 14) (GI 2) (GI 3) (GI 4) (GI 5) (GL 6)
/-- images that are there -/
def ImsR (V : Nat → Int32) (GI : Nat → Nat → Int32) (GL : Nat → Nat → Int64) (pres : Nat → Bool) (MG : Nat → Nat → Int32) : Prop := ∀ k, k < 3 → (pres k = true → ¬ MG 2 k = 0 ∧ ImR V GI GL (MG 0) k) ∧ (pres k = false → MG 2 k = 0)
def Inv (V : Nat → Int32) (GI : Nat → Nat → Int32) (GL : Nat → Nat → Int64) (pres : Nat → Bool) (MV : Nat → Int32) (MG : Nat → Nat → Int32) : Prop :=
  (∃ m d e fl ew q P t n, NowR V GI GL MV MG m d e fl ew q P t n) ∧ (∃ u, u ≤ 4 ∧ V 7 = nI u ∧ MV 3 = nI u ∧ UnR V GL (MG 0) u) ∧ ImsR V GI GL pres MG ∧ MG 6 0 = 0
theorem ImR_f {V : Nat → Int32} {GI : Nat → Nat → Int32} {GL : Nat → Nat → Int64} {f g : Nat → Int32} {k : Nat} (hk : k < 3) (h : ∀ j, 2690 ≤ j → g j = f j) (hI : ImR V GI GL f k) : ImR V GI GL g k := by
  obtain ⟨m, d, e, fl, ew, q, P, t, n, a1, a2, a3, a4, a5, a6⟩ := hI
  refine ⟨m, d, e, fl, ew, q, P, t, n, a1, a2, StF_move a1 (fun j hj => h _ (by omega)) a3, by rw [h _ (by omega)]; exact a4, fun i hi => ?_, ?_⟩
  · show g _ = _
    rw [h _ (by omega)]; exact a5 i hi
  · rw [h _ (by omega), h _ (by omega)]; exact a6
theorem UnR_f {V : Nat → Int32} {GL : Nat → Nat → Int64} {f g : Nat → Int32} {u : Nat} (hu : u ≤ 4) (h : ∀ j, 1406 ≤ j → j < 2690 → g j = f j) (hU : UnR V GL f u) : UnR V GL g u := by
  obtain ⟨mm, dd, a⟩ := hU
  refine ⟨mm, dd, fun k hk => ?_⟩
  obtain ⟨b1, b2, b3, b4⟩ := a k hk
  have h40 := b1.1
  exact ⟨b1, b2, b3, by rw [h _ (by omega) (by omega)]; exact b4.1, fun w hw => WA_cong (b1.2.2 w hw).2.2.1 (fun i hi => h _ (by omega) (by omega)) (b4.2 w hw)⟩
/-- only the reference's own rooms changed -/
theorem Inv_f {V : Nat → Int32} {GI : Nat → Nat → Int32} {GL : Nat → Nat → Int64} {pres : Nat → Bool} {MV MV' : Nat → Int32} {MG MG' : Nat → Nat → Int32} (hI : Inv V GI GL pres MV MG) (h : ∀ j, j < 443 ∨ 1406 ≤ j → MG' 0 j = MG 0 j) (h0 : MV' 0 = MV 0) (h1 : MV' 1 = MV 1) (h2 : MV' 2 = MV 2) (h3 : MV' 3 = MV 3) (h4 : MG' 1 = MG 1) (h5 : MG' 2 = MG 2) (h6 : MG' 6 0 = 0) : Inv V GI GL pres MV' MG' := by
  obtain ⟨⟨m, d, e, fl, ew, q, P, t, n, a1, a2, a3, a4, a5, a6, a7, a8⟩, ⟨u, b1, b2, b3, b4⟩, c, -⟩ := hI
  refine ⟨⟨m, d, e, fl, ew, q, P, t, n, a1, a2, StF_move a1 (fun j hj => h _ (by omega)) a3, by rw [h0]; exact a4, by rw [h4]; exact a5, by rw [h1, h2]; exact a6, a7, a8⟩, ⟨u, b1, b2, by rw [h3]; exact b3, UnR_f b1 (fun j hj _ => h j (by omega)) b4⟩, fun k hk => ⟨fun hp => ?_, fun hp => by rw [h5]; exact (c k hk).2 hp⟩, h6⟩
  obtain ⟨x1, x2⟩ := (c k hk).1 hp
  exact ⟨by rw [h5]; exact x1, ImR_f hk (fun j hj => h j (by omega)) x2⟩
theorem StF.EA {f : Nat → Int32} {m e P : Nat} {d fl ew q : Nat → Nat} (h : StF f 0 m d e fl ew q P) : EA f fl ew e := by
  obtain ⟨-, ⟨a3, a4⟩, -⟩ := h
  rw [Nat.zero_add] at a3
  refine ⟨a3, fun k hk => ?_⟩
  have := a4 k hk
  rw [show 0 + 322 + 9 * k = 322 + 9 * k by omega, show 0 + 323 + 9 * k = 323 + 9 * k by omega] at this
  exact this
theorem EA.St {f : Nat → Int32} {m e P : Nat} {d fl ew q : Nat → Nat} (hA : DA f 0 d m) (hE : EA f fl ew e) (hP : PA f 430 q P) : StF f 0 m d e fl ew q P := by
  refine ⟨hA, ⟨by rw [Nat.zero_add]; exact hE.1, fun k hk => ?_⟩, by rw [Nat.zero_add]; exact hP⟩
  rw [show 0 + 322 + 9 * k = 322 + 9 * k by omega, show 0 + 323 + 9 * k = 323 + 9 * k by omega]
  exact hE.2 k hk
theorem StF.PA {f : Nat → Int32} {m e P : Nat} {d fl ew q : Nat → Nat} (h : StF f 0 m d e fl ew q P) : PA f 430 q P := by
  have := h.2.2
  rw [Nat.zero_add] at this
  exact this
