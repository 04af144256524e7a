/-! all that is between the two memories; what a call leaves as it was -/
abbrev ByteR (v : Int32) : Prop := v.toInt8.toInt32 = v
/-- a shelf -/
def ShE (σ : IM) (ρ : RM) (kf : KF) (μ : IM) (d : Nat) : Prop :=
  (μ 7 d = 0 ∧ σ (29 + 2 * d) 2 = -1 ∧ ρ (29 + 2 * d) 1 = none) ∨
  (μ 7 d = 1 ∧ σ (29 + 2 * d) 2 = -1 ∧ ∃ q k fg, ρ (29 + 2 * d) 1 = some q ∧ k < 8 ∧ fg < 10 ∧ kf q = some (k, nI fg) ∧ μ 8 d = nI k ∧ μ 9 d = nI fg) ∨
  (μ 7 d = 2 ∧ ρ (29 + 2 * d) 1 = none ∧ ∃ so sz, so < 3 ∧ sz ≤ 100 ∧ σ (29 + 2 * d) 2 = nI so ∧ μ 10 d = nI so ∧ σ (29 + 2 * d) 3 = nI sz ∧ μ 11 d = nI sz ∧ (∀ i, i < sz → σ (29 + 2 * d + 1) i = μ 12 (100 * d + i)) ∧ (so = 0 → ∀ i, i < sz → ByteR (μ 12 (100 * d + i))))
/-- the image -/
def Img (σ : IM) (ρ : RM) (kf : KF) (μ : IM) : Prop := (σ 0 3 = 0 ∧ μ 0 5 = 0) ∨ (σ 0 3 = 1 ∧ μ 0 5 = 1 ∧ ∃ f, Inv f ∧ (f 1 ≤ 999 ∧ f 38 ≤ 99 ∧ f 41 ≤ 99) ∧ CR σ 19 f ∧ SR ρ kf 19 f ∧ RA (μ 3) f)
/-- the samples -/
def Smp (ρ : RM) (kf : KF) : Prop := ∀ k, k < 8 → ∃ q, ρ 45 k = some q ∧ kf q = some (k, nI 0)
def Rst (σ : IM) (ρ : RM) (kf : KF) (μ : IM) : Prop := Img σ ρ kf μ ∧ (∀ d, d < 8 → ShE σ ρ kf μ d) ∧ Smp ρ kf
def All (σ : IM) (ρ : RM) (kf : KF) (μ : IM) : Prop := (∃ f, Now σ ρ kf μ f) ∧ Rst σ ρ kf μ
theorem CR.congr {σ σ' : IM} {c : Nat} {f : Nat → Nat} (h : CR σ c f) (e : ∀ i, c ≤ i → i ≤ c + 7 → σ' i = σ i) : CR σ' c f := by
  intro o k hv
  rw [e (c + o) (by omega) (by unfold Vl at hv; omega)]
  exact h o k hv
theorem SR.congr {ρ ρ' : RM} {kf : KF} {c : Nat} {f : Nat → Nat} (h : SR ρ kf c f) (e : ρ' (c + 8) = ρ (c + 8)) : SR ρ' kf c f := by
  intro k hk
  rw [e]
  exact h k hk
/-- what stays of the rest, when the court that is now changes -/
def KC (σ : IM) (ρ : RM) (σ' : IM) (ρ' : RM) : Prop := (∀ i, 19 ≤ i → i < 46 → σ' i = σ i) ∧ σ' 0 3 = σ 0 3 ∧ ∀ i, 19 ≤ i → i < 46 → ρ' i = ρ i
def KR (μ μ' : IM) : Prop := μ' 3 = μ 3 ∧ (∀ i, 7 ≤ i → μ' i = μ i) ∧ μ' 0 5 = μ 0 5
theorem Rst.keep {σ σ' : IM} {ρ ρ' : RM} {kf : KF} {μ μ' : IM} (h : Rst σ ρ kf μ) (a : KC σ ρ σ' ρ') (b : KR μ μ') : Rst σ' ρ' kf μ' := by
  obtain ⟨h1, h2, h3⟩ := h
  obtain ⟨a1, a2, a3⟩ := a
  obtain ⟨b1, b2, b3⟩ := b
  refine ⟨?_, ?_, ?_⟩
  · rcases h1 with ⟨q1, q2⟩ | ⟨q1, q2, f, i1, i2, i3, i4, i5⟩
    · exact Or.inl ⟨a2.trans q1, b3.trans q2⟩
    · exact Or.inr ⟨a2.trans q1, b3.trans q2, f, i1, i2, i3.congr (fun i l1 l2 => a1 i (by omega) (by omega)), i4.congr (a3 _ (by omega) (by omega)), by rw [b1]; exact i5⟩
  · intro d hd
    have e1 := a1 (29 + 2 * d) (by omega) (by omega)
    have e2 := a1 (29 + 2 * d + 1) (by omega) (by omega)
    have e3 := a3 (29 + 2 * d) (by omega) (by omega)
    have g := h2 d hd
    unfold ShE at g ⊢
    rw [e1, e2, e3, b2 7 (by omega), b2 8 (by omega), b2 9 (by omega), b2 10 (by omega), b2 11 (by omega), b2 12 (by omega)]
    exact g
  · intro k hk
    rw [a3 45 (by omega) (by omega)]
    exact h3 k hk
/-- what is in mind alone changes -/
def FC (σ : IM) (ρ : RM) (σ' : IM) (ρ' : RM) : Prop := (∀ i, 1 ≤ i → i < 10 → σ' i = σ i) ∧ (∀ i, 18 ≤ i → i < 46 → σ' i = σ i) ∧ σ' 0 3 = σ 0 3 ∧ ∀ i, i ≠ 18 → ρ' i = ρ i
def FR (μ μ' : IM) : Prop := μ' 1 = μ 1 ∧ μ' 3 = μ 3 ∧ (∀ i, 7 ≤ i → μ' i = μ i) ∧ μ' 0 5 = μ 0 5
theorem FC.rf {σ : IM} {ρ : RM} : FC σ ρ σ ρ := ⟨fun _ _ _ => rfl, fun _ _ _ => rfl, rfl, fun _ _ => rfl⟩
theorem FR.rf {μ : IM} : FR μ μ := ⟨rfl, rfl, fun _ _ => rfl, rfl⟩
theorem FC.tr {σ σ1 σ2 : IM} {ρ ρ1 ρ2 : RM} (h : FC σ ρ σ1 ρ1) (g : FC σ1 ρ1 σ2 ρ2) : FC σ ρ σ2 ρ2 := ⟨fun i a b => (g.1 i a b).trans (h.1 i a b), fun i a b => (g.2.1 i a b).trans (h.2.1 i a b), g.2.2.1.trans h.2.2.1, fun i a => (g.2.2.2 i a).trans (h.2.2.2 i a)⟩
theorem FR.tr {μ μ1 μ2 : IM} (h : FR μ μ1) (g : FR μ1 μ2) : FR μ μ2 := ⟨g.1.trans h.1, g.2.1.trans h.2.1, fun i a => (g.2.2.1 i a).trans (h.2.2.1 i a), g.2.2.2.trans h.2.2.2⟩
theorem Now.fr {σ σ' : IM} {ρ ρ' : RM} {kf : KF} {μ μ' : IM} {f : Nat → Nat} (h : Now σ ρ kf μ f) (a : FC σ ρ σ' ρ') (b : FR μ μ') : Now σ' ρ' kf μ' f :=
  ⟨h.1, h.2.1, h.2.2.1.congr (fun i l1 l2 => a.1 i (by omega) (by omega)), h.2.2.2.1.congr (a.2.2.2 _ (by omega)), by rw [b.1]; exact h.2.2.2.2⟩
theorem All.fr {σ σ' : IM} {ρ ρ' : RM} {kf : KF} {μ μ' : IM} (h : All σ ρ kf μ) (a : FC σ ρ σ' ρ') (b : FR μ μ') : All σ' ρ' kf μ' := by
  obtain ⟨⟨f, hf⟩, hr⟩ := h
  exact ⟨⟨f, hf.fr a b⟩, hr.keep ⟨fun i l1 l2 => a.2.1 i (by omega) l2, a.2.2.1, fun i l1 l2 => a.2.2.2 i (by omega)⟩ ⟨b.2.1, b.2.2.1, b.2.2.2⟩⟩
/-- what both answer, and all that is between them then -/
def Same3 (kf : KF) (x : Option (Int32 × IM × RM)) (y : Option (Int32 × IM)) : Prop := ∃ r σ' ρ' μ', x = some (r, σ', ρ') ∧ y = some (r, μ') ∧ All σ' ρ' kf μ'
def Same1 (kf : KF) (σ : IM) (ρ : RM) (x : Option Int32) (y : Option (Int32 × IM)) : Prop := ∃ r μ', x = some r ∧ y = some (r, μ') ∧ All σ ρ kf μ'
def Same0 (x y : Option Int32) : Prop := ∃ r, x = some r ∧ y = some r
theorem Same3.no {σ : IM} {ρ : RM} {kf : KF} {μ : IM} {x : Option (Int32 × IM × RM)} {y : Option (Int32 × IM)} (h : All σ ρ kf μ) {r : Int32} (e1 : x = some (r, σ, ρ)) (e2 : y = some (r, μ)) : Same3 kf x y := ⟨r, σ, ρ, μ, e1, e2, h⟩
/-! the court in mind: the class's is g, the reference's is g -/
def MC (σ : IM) (ρ : RM) (kf : KF) (g : Nat → Nat) : Prop := CR σ 10 g ∧ SR ρ kf 10 g
theorem M_become {σ : IM} {ρ : RM} {kf : KF} {μ : IM} {f : Nat → Nat} (h : Now σ ρ kf μ f) : ∃ σ' ρ', X1_become kf σ ρ 10 1 = some (σ', ρ') ∧ MC σ' ρ' kf f ∧ FC σ ρ σ' ρ' ∧ ∀ i, i < 10 ∨ 17 < i → σ' i = σ i := by
  obtain ⟨σ', ρ', e, a, b, c, d⟩ := C_become (c0 := 10) (c1 := 1) (Or.inl (by omega)) h.2.2.1 h.2.2.2.1 h.1.1
  exact ⟨σ', ρ', e, ⟨a, b⟩, ⟨fun i l1 l2 => c i (by omega), fun i l1 l2 => c i (by omega), by rw [c 0 (by omega)], fun i hi => d i hi⟩, fun i hi => c i (by omega)⟩
theorem M_strike {σ : IM} {ρ : RM} {kf : KF} {g : Nat → Nat} (h : MC σ ρ kf g) (hI : Inv g) {k x : Nat} (hk : k < g 0) (hx : x < 9) : ∃ σ', X1_strike kf σ ρ 10 (nI k) (nI x) = some (nI (ptB g k x), σ', ρ) ∧ MC σ' ρ kf (hitN g k x) ∧ FC σ ρ σ' ρ ∧ ∀ i, i < 10 ∨ 17 < i → σ' i = σ i := by
  obtain ⟨σ', e, a, c⟩ := C_strike h.1 h.2 hI hk hx
  exact ⟨σ', e, ⟨a, h.2.hit hI k x⟩, ⟨fun i l1 l2 => c i (by omega), fun i l1 l2 => c i (by omega), by rw [c 0 (by omega)], fun i _ => rfl⟩, fun i hi => c i (by omega)⟩
theorem N_copies {μ : IM} {f : Nat → Nat} (h : RA (μ 1) f) : ∃ μ', X12_copies μ 1 2 = some μ' ∧ RA (μ' 2) f ∧ FR μ μ' ∧ ∀ i, i ≠ 2 → μ' i = μ i := by
  obtain ⟨μ', e, a, b⟩ := R_copies (μ := μ) (r0 := 1) (r1 := 2) (by omega)
  exact ⟨μ', e, h.eq b, ⟨a 1 (by omega), a 3 (by omega), fun i hi => a i (by omega), by rw [a 0 (by omega)]⟩, fun i hi => a i hi⟩
theorem N_hits {μ : IM} {g : Nat → Nat} (h : RA (μ 2) g) (hI : Inv g) {k x : Nat} (hk : k < g 0) (hx : x < 9) : ∃ μ', X12_hits μ 2 (nI k) (nI x) = some (nI (ptB g k x), μ') ∧ RA (μ' 2) (hitN g k x) ∧ FR μ μ' ∧ (∀ i, i ≠ 2 → i ≠ 5 → μ' i = μ i) ∧ (∀ q, q < 4 → μ' 5 q = μ 5 q + nI (if ptN g k x then 0 else wayN (g (20 + 4 * q)) (hitN g k x (20 + 4 * q)))) := by
  obtain ⟨μ', e, a, b, c⟩ := R_hits h (by omega) hI hk hx
  exact ⟨μ', e, a, ⟨b 1 (by omega) (by omega), b 3 (by omega) (by omega), fun i hi => b i (by omega) (by omega), by rw [b 0 (by omega) (by omega)]⟩, b, c⟩
theorem N_isWon {μ : IM} {f : Nat → Nat} (h : RA (μ 1) f) (hI : Inv f) {k x : Nat} (hk : k < f 0) (hx : x < 9) : ∃ μ', X12_isWon μ (nI k) (nI x) = some (nI (ptB f k x), μ') ∧ RA (μ' 2) (hitN f k x) ∧ FR μ μ' := by
  obtain ⟨μ1, e1, a1, b1, -⟩ := N_copies h
  obtain ⟨μ2, e2, a2, b2, -⟩ := N_hits a1 hI hk hx
  refine ⟨μ2, ?_, a2, b1.tr b2⟩
  unfold X12_isWon
  rw [e1, bd1_s, e2, bd2_s]
  rcases ptB_01 f k x with q | q <;> rw [q] <;> rfl
theorem ptB_or (f : Nat → Nat) (k c : Nat) : ptB f k c = 0 ∨ ptB f k c = 1 := by
  unfold ptB
  split
  · exact Or.inr rfl
  · exact Or.inl rfl
theorem rd42_0 {β : Type} {a : Nat → Int32} {k : Int32 → Option β} : rd a 42 0 k = k (a 0) := rdN (j := 0) (by omega) (by omega)
theorem rd42_1 {β : Type} {a : Nat → Int32} {k : Int32 → Option β} : rd a 42 1 k = k (a 1) := rdN (j := 1) (by omega) (by omega)
theorem rd42_2 {β : Type} {a : Nat → Int32} {k : Int32 → Option β} : rd a 42 2 k = k (a 2) := rdN (j := 2) (by omega) (by omega)
theorem rd42_3 {β : Type} {a : Nat → Int32} {k : Int32 → Option β} : rd a 42 3 k = k (a 3) := rdN (j := 3) (by omega) (by omega)
theorem rd2_0 {β : Type} {a : Nat → Int32} {k : Int32 → Option β} : rd a 2 0 k = k (a 0) := rdN (j := 0) (by omega) (by omega)
theorem rd2_1 {β : Type} {a : Nat → Int32} {k : Int32 → Option β} : rd a 2 1 k = k (a 1) := rdN (j := 1) (by omega) (by omega)
theorem rd3_0 {β : Type} {a : Nat → Int32} {k : Int32 → Option β} : rd a 3 0 k = k (a 0) := rdN (j := 0) (by omega) (by omega)
theorem rd3_1 {β : Type} {a : Nat → Int32} {k : Int32 → Option β} : rd a 3 1 k = k (a 1) := rdN (j := 1) (by omega) (by omega)
theorem rd3_2 {β : Type} {a : Nat → Int32} {k : Int32 → Option β} : rd a 3 2 k = k (a 2) := rdN (j := 2) (by omega) (by omega)
theorem wr42_0 {β : Type} {σ : IM} {c : Nat} {v : Int32} {k : IM → Option β} : wr σ c 42 0 v k = k (up2 σ c 0 v) := wrN (j := 0) (by omega) (by omega)
theorem wr42_2 {β : Type} {σ : IM} {c : Nat} {v : Int32} {k : IM → Option β} : wr σ c 42 2 v k = k (up2 σ c 2 v) := wrN (j := 2) (by omega) (by omega)
theorem wr42_3 {β : Type} {σ : IM} {c : Nat} {v : Int32} {k : IM → Option β} : wr σ c 42 3 v k = k (up2 σ c 3 v) := wrN (j := 3) (by omega) (by omega)
theorem wr2_0 {β : Type} {σ : IM} {c : Nat} {v : Int32} {k : IM → Option β} : wr σ c 2 0 v k = k (up2 σ c 0 v) := wrN (j := 0) (by omega) (by omega)
theorem wr2_1 {β : Type} {σ : IM} {c : Nat} {v : Int32} {k : IM → Option β} : wr σ c 2 1 v k = k (up2 σ c 1 v) := wrN (j := 1) (by omega) (by omega)
theorem z00 : nI 0 = 0 := rfl
theorem z10 : ¬ nI 1 = 0 := by decide
