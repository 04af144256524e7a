/-! the fewest hits; the best form, the best habit -/
abbrev f1N (f : Nat → Nat) (a : Nat) : Nat → Nat := hitN f (a / 9) (a % 9)
abbrev f2N (f : Nat → Nat) (a : Nat) : Nat → Nat := hitN (f1N f a) 0 4
def wonN (f : Nat → Nat) (a b : Nat) : Prop := ptB f (a / 9) (a % 9) = 0 ∧ ptB (f1N f a) 0 4 = 0 ∧ ptC (f2N f a) b
def opnN (f : Nat → Nat) (a : Nat) : Prop := ∃ b, b < 9 * f 0 ∧ wonN f a b
theorem f1_0 {f : Nat → Nat} {k c : Nat} (hI : Inv f) : hitN f k c 0 = f 0 := hitN_0 hI.2.1
theorem C_firstOpening {σ : IM} {ρ : RM} {kf : KF} {μ : IM} {f : Nat → Nat} (hf : Now σ ρ kf μ f) (h0 : 0 < f 0) : ∃ r σ' ρ', X11_firstOpening kf σ ρ = some (r, σ', ρ') ∧ FirstR (opnN f) (9 * f 0) r ∧ FC σ ρ σ' ρ' := by
  have hI := hf.1
  have hN := hI.1
  refine loop_i (σ := IM × RM) (fun n i z => ∃ r σ' ρ', X11_firstOpening_b2 kf n (nI i) z.1 z.2 = some (r, σ', ρ') ∧ FirstR (opnN f) (9 * f 0) r ∧ FC σ ρ σ' ρ') (fun i z => FC σ ρ z.1 z.2 ∧ ∀ j, j < 9 * i → ¬ opnN f j) (f 0) ?_ ?_ 1000 0 (σ, ρ) (by omega) (by omega) ⟨FC.rf, fun j hj => absurd hj (by omega)⟩
  · rintro n ⟨τ, ω⟩ ⟨fc, h⟩
    have hn : Now τ ω kf μ f := hf.fr fc FR.rf
    refine ⟨-4, τ, ω, ?_, Or.inr ⟨h, rfl⟩, fc⟩
    show X11_firstOpening_s2 kf _ (nI (f 0)) τ ω = _
    unfold X11_firstOpening_s2
    rw [hn.2.2.1.known, if_pos (nI_le (by omega) (by omega))]
  · rintro n i ⟨τ, ω⟩ hi ⟨fc, h⟩ k
    have hn : Now τ ω kf μ f := hf.fr fc FR.rf
    show ∃ r σ' ρ', X11_firstOpening_s2 kf (X11_firstOpening_b2 kf n) (nI i) τ ω = some (r, σ', ρ') ∧ _
    unfold X11_firstOpening_s2
    rw [hn.2.2.1.known, if_neg (nI_ge (by omega) (by omega))]
    refine loop_i (σ := IM × RM) (fun n' x z => ∃ r σ' ρ', X11_firstOpening_b15 kf (X11_firstOpening_b2 kf n) n' (nI i) (nI x) z.1 z.2 = some (r, σ', ρ') ∧ FirstR (opnN f) (9 * f 0) r ∧ FC σ ρ σ' ρ') (fun x z => FC σ ρ z.1 z.2 ∧ ∀ j, j < 9 * i + x → ¬ opnN f j) 9 ?_ ?_ 1000 0 (τ, ω) (by omega) (by omega) ⟨fc, fun j hj => h j (by omega)⟩
    · rintro n' ⟨τ, ω⟩ ⟨fc, h⟩
      show ∃ r σ' ρ', X11_firstOpening_s15 kf (X11_firstOpening_b2 kf n) _ (nI i) (nI 9) τ ω = some (r, σ', ρ') ∧ _
      unfold X11_firstOpening_s15
      rw [if_pos (show (9 : Int32) ≤ nI 9 by decide), nI_1, bd_e]
      exact k (τ, ω) ⟨fc, fun j hj => h j (by omega)⟩
    · rintro n' x ⟨τ, ω⟩ hx ⟨fc, h⟩ k'
      have hn : Now τ ω kf μ f := hf.fr fc FR.rf
      have e1 : (9 * i + x) / 9 = i := by omega
      have e2 : (9 * i + x) % 9 = x := by omega
      obtain ⟨τ1, ω1, b1, m1, g1, -⟩ := M_become hn
      obtain ⟨τ2, b2, m2, g2, -⟩ := M_strike m1 hI hi hx
      have hI2 := hitN_Inv (k := i) (c := x) hI hi hx
      have z2 := f1_0 (k := i) (c := x) hI
      obtain ⟨τ3, b3, m3, g3, -⟩ := M_strike (k := 0) (x := 4) m2 hI2 (by omega) (by omega)
      have hI3 := hitN_Inv (k := 0) (c := 4) hI2 (by omega) (by omega)
      have z3 := f1_0 (k := 0) (c := 4) hI2
      obtain ⟨r, b4, q4⟩ := C_firstScoring m3.1 m3.2 hI3
      rw [z3, z2] at q4
      have fc2 : FC σ ρ τ2 ω1 := (fc.tr g1).tr g2
      have fc3 : FC σ ρ τ3 ω1 := fc2.tr g3
      have ext : ∀ τ' ω', FC σ ρ τ' ω' → ¬ opnN f (9 * i + x) → ∃ r σ' ρ', X11_firstOpening_b15 kf (X11_firstOpening_b2 kf n) n' (nI i) (nI (x + 1)) τ' ω' = some (r, σ', ρ') ∧ FirstR (opnN f) (9 * f 0) r ∧ FC σ ρ σ' ρ' := fun τ' ω' a b => k' (τ', ω') ⟨a, fun j hj => by
        by_cases e : j = 9 * i + x
        · rw [e]
          exact b
        · exact h j (by omega)⟩
      show ∃ r σ' ρ', X11_firstOpening_s15 kf (X11_firstOpening_b2 kf n) (X11_firstOpening_b15 kf (X11_firstOpening_b2 kf n) n') (nI i) (nI x) τ ω = some (r, σ', ρ') ∧ _
      unfold X11_firstOpening_s15 X11_firstOpening_b56 X11_firstOpening_b61 X11_firstOpening_b85
      rw [if_neg (show ¬ (9 : Int32) ≤ nI x from nI_ge (b := 9) hx (by omega)), b1, bd2_s, b2, bd3_s, show X1_strike kf τ2 ω1 10 0 4 = _ from b3, bd3_s, b4, bd1_s]
      simp only [nI_1, bd_e]
      rcases ptB_or f i x with p1 | p1
      · rw [p1, if_pos z00]
        rcases ptB_or (hitN f i x) 0 4 with p2 | p2
        · rw [p2, if_pos z00, if_pos trivial]
          rcases q4 with ⟨c, c1, c2, c3, rfl⟩ | ⟨c1, rfl⟩
          · rw [if_neg (show ¬ nI (10 * (c / 9) + c % 9) = -4 from fun e => by
              have := nI_pos (n := 10 * (c / 9) + c % 9) (by omega)
              rw [e] at this
              exact this (by decide))]
            refine ⟨_, _, _, rfl, Or.inl ⟨9 * i + x, by omega, ⟨c, by omega, ?_, ?_, ?_⟩, h, ?_⟩, fc3⟩
            · rw [e1, e2, p1]
            · unfold f1N
              rw [e1, e2, p2]
            · unfold f2N f1N
              rw [e1, e2]
              exact c2
            · rw [e1, e2, show (10 : Int32) = nI 10 from rfl, pk_mul, nI_add]
          · rw [if_pos rfl]
            refine ext _ _ fc3 ?_
            rintro ⟨b, d1, d2, d3, d4⟩
            unfold f2N f1N at d4
            rw [e1, e2] at d4
            exact c1 b (by omega) d4
        · rw [p2, if_neg z10, if_neg n10]
          refine ext _ _ fc3 ?_
          rintro ⟨b, d1, d2, d3, d4⟩
          unfold f1N at d3
          rw [e1, e2, p2] at d3
          omega
      · rw [p1, if_neg z10, if_neg n10]
        refine ext _ _ fc2 ?_
        rintro ⟨b, d1, d2, d3, d4⟩
        rw [e1, e2, p1] at d2
        omega
theorem N_three {μ : IM} {f : Nat → Nat} (hA : RA (μ 1) f) (hI : Inv f) {a b : Nat} (ha : a < 9 * f 0) (hb : b < 9 * f 0) : ∃ v μ', X12_isWonInThree μ (nI a) (nI b) = some (nI v, μ') ∧ ((v = 0 ∧ ¬ wonN f a b) ∨ (v = 1 ∧ wonN f a b)) ∧ FR μ μ' := by
  have hN := hI.1
  obtain ⟨ν1, e1, m1, g1⟩ := N_isWon (k := a / 9) (x := a % 9) hA hI (by omega) (by omega)
  have hI1 : Inv (hitN f (a / 9) (a % 9)) := hitN_Inv hI (by omega) (by omega)
  have z1 : hitN f (a / 9) (a % 9) 0 = f 0 := f1_0 hI
  obtain ⟨ν2, e2, m2, g2, -⟩ := N_hits (k := 0) (x := 4) m1 hI1 (by omega) (by omega)
  have hI2 : Inv (hitN (hitN f (a / 9) (a % 9)) 0 4) := hitN_Inv hI1 (by omega) (by omega)
  have z2 : hitN (hitN f (a / 9) (a % 9)) 0 4 0 = hitN f (a / 9) (a % 9) 0 := f1_0 hI1
  obtain ⟨ν3, e3, m3, g3, -⟩ := N_hits (k := b / 9) (x := b % 9) m2 hI2 (by omega) (by omega)
  unfold X12_isWonInThree
  rw [show nI a / 9 = nI (a / 9) from nI_div (d := 9) (by omega) (by omega) (by omega), show rem32 (nI a) 9 = nI (a % 9) from nI_rem (d := 9) (by omega) (by omega) (by omega), e1, bd2_s]
  rcases ptB_or f (a / 9) (a % 9) with p1 | p1
  · rw [p1, if_pos z00, show X12_hits ν1 2 0 4 = _ from e2, bd2_s]
    rcases ptB_or (f1N f a) 0 4 with p2 | p2
    · rw [p2, if_pos z00, show nI b / 9 = nI (b / 9) from nI_div (d := 9) (by omega) (by omega) (by omega), show rem32 (nI b) 9 = nI (b % 9) from nI_rem (d := 9) (by omega) (by omega) (by omega), e3, bd2_s]
      rcases ptB_or (f2N f a) (b / 9) (b % 9) with p3 | p3
      · exact ⟨0, ν3, by rw [p3]; rfl, Or.inl ⟨rfl, fun w => by have := w.2.2; unfold ptC at this; omega⟩, (g1.tr g2).tr g3⟩
      · exact ⟨1, ν3, by rw [p3]; rfl, Or.inr ⟨rfl, p1, p2, p3⟩, (g1.tr g2).tr g3⟩
    · refine ⟨0, ν2, ?_, Or.inl ⟨rfl, fun w => by have := w.2.1; omega⟩, g1.tr g2⟩
      rw [p2, if_neg z10]
      rfl
  · refine ⟨0, ν1, ?_, Or.inl ⟨rfl, fun w => by have := w.1; omega⟩, g1⟩
    rw [p1, if_neg z10]
    rfl
theorem R_opening {μ : IM} {f : Nat → Nat} (hA : RA (μ 1) f) (hI : Inv f) (h0 : 0 < f 0) (w : Nat) (hw : w < 2) : ∃ r μ', X12_fewest_b55 1000 (nI w) (nI (9 * f 0)) 0 μ = some (if r = -4 then -4 else if w = 0 then 3 else r, μ') ∧ FirstR (opnN f) (9 * f 0) r ∧ FR μ μ' := by
  have hN := hI.1
  refine loop_i (σ := IM) (fun n i ν => ∃ r μ', X12_fewest_b55 n (nI w) (nI (9 * f 0)) (nI i) ν = some (if r = -4 then -4 else if w = 0 then 3 else r, μ') ∧ FirstR (opnN f) (9 * f 0) r ∧ FR μ μ') (fun i ν => FR μ ν ∧ ∀ j, j < i → ¬ opnN f j) (9 * f 0) ?_ ?_ 1000 0 μ (by omega) (by omega) ⟨FR.rf, fun j hj => absurd hj (by omega)⟩
  · rintro n ν ⟨fr, h⟩
    refine ⟨-4, ν, ?_, Or.inr ⟨h, rfl⟩, fr⟩
    show X12_fewest_s55 _ (nI w) (nI (9 * f 0)) (nI (9 * f 0)) ν = _
    unfold X12_fewest_s55
    rw [if_pos (nI_le (by omega) (by omega)), if_pos rfl]
  · rintro n i ν hi ⟨fr, h⟩ k
    show ∃ r μ', X12_fewest_s55 (X12_fewest_b55 n) (nI w) (nI (9 * f 0)) (nI i) ν = some (if r = -4 then -4 else if w = 0 then 3 else r, μ') ∧ _
    unfold X12_fewest_s55
    rw [if_neg (nI_ge (by omega) (by omega))]
    refine loop_i (σ := IM) (fun n' x ν => ∃ r μ', X12_fewest_b64 (X12_fewest_b55 n) n' (nI w) (nI (9 * f 0)) (nI i) (nI x) ν = some (if r = -4 then -4 else if w = 0 then 3 else r, μ') ∧ FirstR (opnN f) (9 * f 0) r ∧ FR μ μ') (fun x ν => FR μ ν ∧ ∀ b, b < x → ¬ wonN f i b) (9 * f 0) ?_ ?_ 1000 0 ν (by omega) (by omega) ⟨fr, fun j hj => absurd hj (by omega)⟩
    · rintro n' ν ⟨fr, h'⟩
      show ∃ r μ', X12_fewest_s64 (X12_fewest_b55 n) _ (nI w) (nI (9 * f 0)) (nI i) (nI (9 * f 0)) ν = some (if r = -4 then -4 else if w = 0 then 3 else r, μ') ∧ _
      unfold X12_fewest_s64
      rw [if_pos (nI_le (by omega) (by omega)), nI_1, bd_e]
      refine k ν ⟨fr, fun j hj => ?_⟩
      by_cases e : j = i
      · subst e
        rintro ⟨b, hb, hw⟩
        exact h' b hb hw
      · exact h j (by omega)
    · rintro n' x ν hx ⟨fr, h'⟩ k'
      obtain ⟨v, ν', e, hv, fr'⟩ := N_three (μ := ν) (a := i) (b := x) (by rw [fr.1]; exact hA) hI hi hx
      show ∃ r μ', X12_fewest_s64 (X12_fewest_b55 n) (X12_fewest_b64 (X12_fewest_b55 n) n') (nI w) (nI (9 * f 0)) (nI i) (nI x) ν = some (if r = -4 then -4 else if w = 0 then 3 else r, μ') ∧ _
      unfold X12_fewest_s64
      rw [if_neg (nI_ge (by omega) (by omega)), e, bd2_s]
      rcases hv with ⟨rfl, hv⟩ | ⟨rfl, hv⟩
      · rw [if_pos z00, nI_1, bd_e]
        refine k' ν' ⟨fr.tr fr', fun b hb => ?_⟩
        by_cases e : b = x
        · rw [e]
          exact hv
        · exact h' b (by omega)
      · rw [if_neg z10]
        refine ⟨nI (10 * (i / 9) + i % 9), ν', ?_, Or.inl ⟨i, hi, ⟨x, hx, hv⟩, h, rfl⟩, fr.tr fr'⟩
        rw [if_neg (show ¬ nI (10 * (i / 9) + i % 9) = -4 from fun e => by
              have := nI_pos (n := 10 * (i / 9) + i % 9) (by omega)
              rw [e] at this
              exact this (by decide)), show nI i / 9 = nI (i / 9) from nI_div (d := 9) (by omega) (by omega) (by omega), show rem32 (nI i) 9 = nI (i % 9) from nI_rem (d := 9) (by omega) (by omega) (by omega), show (10 : Int32) = nI 10 from rfl, pk_mul, nI_add]
        rcases (show w = 0 ∨ w = 1 by omega) with rfl | rfl <;> rfl
theorem E_fewest {σ : IM} {ρ : RM} {kf : KF} {μ : IM} (h : All σ ρ kf μ) (a1 : Int32) : Same3 kf (X11_fewest kf σ ρ a1) (X12_fewest μ a1) := by
  unfold X11_fewest X12_fewest
  obtain ⟨⟨f, hf⟩, hr⟩ := h
  have h0 : All σ ρ kf μ := ⟨⟨f, hf⟩, hr⟩
  have hN := hf.1.1
  have hA := hf.2.2.2.2
  rcases rng a1 2 (by omega) with ⟨w, hw, rfl, w1, w2⟩ | ⟨w1, w2, -⟩
  · rw [show X11_isBelow (nI w) 2 = some 1 from w1, show X12_isIn (nI w) 0 1 = some 1 from w2, bd1_s, bd1_s, if_neg n10, if_neg n10, rd42_0, hf.2.2.1.known, hA.1 0 (by omega) (by omega)]
    by_cases z : f 0 = 0
    · refine Same3.no h0 (r := -3) ?_ ?_
      · rw [z]
        rfl
      · rw [z]
        rfl
    · have nz : ¬ nI (f 0) = 0 := nI_ne0 (by omega) (by omega)
      obtain ⟨r, e1, p1⟩ := C_firstScoring hf.2.2.1 hf.2.2.2.1 hf.1
      obtain ⟨r', μ1, e2, p2, fr⟩ := R_forced hA hf.1
      rw [← p1.uniq p2] at e2
      rw [if_neg nz, if_neg nz, e1, bd1_s, e2, bd2_s]
      rcases p1 with ⟨i, i1, i2, i3, rfl⟩ | ⟨i1, rfl⟩
      · have np := nI_pos (n := 10 * (i / 9) + i % 9) (by omega)
        rw [if_neg (show ¬ nI (10 * (i / 9) + i % 9) = -4 from fun e => by rw [e] at np; exact np (by decide)), if_neg np]
        rcases (show w = 0 ∨ w = 1 by omega) with rfl | rfl
        · exact ⟨_, _, _, _, rfl, rfl, h0.fr FC.rf fr⟩
        · exact ⟨_, _, _, _, rfl, rfl, h0.fr FC.rf fr⟩
      · rw [if_pos rfl, if_pos (by decide)]
        have hA1 : RA (μ1 1) f := by rw [fr.1]; exact hA
        obtain ⟨q, τ, ω, b1, b2, b3⟩ := C_firstOpening hf (by omega)
        obtain ⟨q', μ2, c1, c2, c3⟩ := R_opening hA1 hf.1 (by omega) w hw
        rw [← b2.uniq c2] at c1
        rw [rd42_0, hA1.1 0 (by omega) (by omega), show (9 : Int32) * nI (f 0) = nI (9 * f 0) from pk_mul 9 (f 0), bd_e, b1, bd3_s, c1]
        have fin := h0.fr b3 (fr.tr c3)
        by_cases e : q = -4
        · rw [if_pos e, if_pos e]
          exact ⟨_, _, _, _, rfl, rfl, fin⟩
        · rw [if_neg e, if_neg e]
          rcases (show w = 0 ∨ w = 1 by omega) with rfl | rfl
          · exact ⟨_, _, _, _, rfl, rfl, fin⟩
          · exact ⟨_, _, _, _, rfl, rfl, fin⟩
  · exact Same3.no h0 (r := -1) (by rw [show X11_isBelow a1 2 = some 0 from w1]; rfl) (by rw [show X12_isIn a1 0 1 = some 0 from w2]; rfl)
/-! what form, what habit -/
def brN (g : Nat → Nat) (c : Nat) : Nat := if ptB g 0 c = 1 then 1 else if ptB (hitN g 0 c) 0 4 = 1 then 0 else ptB (hitN (hitN g 0 c) 0 4) 0 (8 - c)
def gvN (s : Nat) (g : Nat → Nat) : Nat → Nat := if g 2 / 2 = s then fup g 2 (2 * (1 - s)) else g
def gsN (f : Nat → Nat) (s w v : Nat) : Nat → Nat := gvN s (fup f (36 + 3 * s + w) v)
def cntN (p : Nat → Nat) : Nat → Nat
  | 0 => 0
  | i + 1 => cntN p i + p i
theorem cntN_le {p : Nat → Nat} (hp : ∀ i, p i ≤ 1) : ∀ n, cntN p n ≤ n := by
  intro n
  induction n with
  | zero => exact Nat.le_refl 0
  | succ n ih =>
    have := hp n
    show cntN p n + p n ≤ n + 1
    omega
theorem gsN_Inv {f : Nat → Nat} (hI : Inv f) {s w v : Nat} (hs : s < 2) (hw : w < 2) (hv : v < (if w = 0 then 2 else 4)) : Inv (gsN f s w v) ∧ gsN f s w v 0 = f 0 := by
  have a : Inv (fup f (36 + 3 * s + w) v) := hI.up 0 s (by split at hv <;> omega)
  unfold gsN gvN
  split
  · exact ⟨a.up 0 0 (by omega), by rw [fup_o (by omega), fup_o (by omega)]⟩
  · exact ⟨a, fup_o (by omega)⟩
theorem M_broken {σ : IM} {ρ : RM} {kf : KF} {g : Nat → Nat} (h : MC σ ρ kf g) (hI : Inv g) (h0 : 0 < g 0) {c : Nat} (hc : c < 9) : ∃ σ', X11_isBroken kf σ ρ (nI c) = some (nI (brN g c), σ', ρ) ∧ FC σ ρ σ' ρ := by
  obtain ⟨τ1, e1, m1, g1, -⟩ := M_strike (k := 0) h hI h0 hc
  have hI1 := hitN_Inv (k := 0) hI h0 hc
  have z1 := f1_0 (k := 0) (c := c) hI
  obtain ⟨τ2, e2, m2, g2, -⟩ := M_strike (k := 0) (x := 4) m1 hI1 (by omega) (by omega)
  have hI2 := hitN_Inv (k := 0) (c := 4) hI1 (by omega) (by omega)
  have z2 := f1_0 (k := 0) (c := 4) hI1
  obtain ⟨τ3, e3, m3, g3, -⟩ := M_strike (k := 0) (x := 8 - c) m2 hI2 (by omega) (by omega)
  unfold X11_isBroken brN
  rw [show X1_strike kf σ ρ 10 0 (nI c) = _ from e1, bd3_s]
  rcases ptB_or g 0 c with p | p
  · rw [p, if_pos z00, if_neg (by omega), show X1_strike kf τ1 ρ 10 0 4 = _ from e2, bd3_s]
    rcases ptB_or (hitN g 0 c) 0 4 with p | p
    · rw [p, if_pos z00, if_neg (by omega), show (8 : Int32) - nI c = nI (8 - c) from nI_sub (a := 8) (by omega), show X1_strike kf τ2 ρ 10 0 (nI (8 - c)) = _ from e3, bd3_s]
      refine ⟨τ3, ?_, (g1.tr g2).tr g3⟩
      rcases ptB_or (hitN (hitN g 0 c) 0 4) 0 (8 - c) with p | p <;> rw [p] <;> rfl
    · rw [p, if_neg z10, if_pos rfl]
      exact ⟨τ2, rfl, g1.tr g2⟩
  · rw [p, if_neg z10, if_pos rfl]
    exact ⟨τ1, rfl, g1⟩
theorem M_give {σ : IM} {ρ : RM} {kf : KF} {g : Nat → Nat} (h : MC σ ρ kf g) (hI : Inv g) {s : Nat} (hs : s < 2) : ∃ σ', X1_giveTo kf σ ρ 10 (1 - nI s) = some (σ', ρ) ∧ MC σ' ρ kf (gvN s g) ∧ FC σ ρ σ' ρ := by
  have h2 := hI.2.1
  have e : (1 : Int32) - nI s = nI (1 - s) := nI_sub (a := 1) (by omega)
  unfold X1_giveTo gvN
  rw [h.1.has, show nI (g 2) / 2 = nI (g 2 / 2) from nI_div (d := 2) (by omega) (by omega) (by omega), e]
  by_cases c : g 2 / 2 = s
  · rw [if_neg (show ¬ nI (g 2 / 2) = nI (1 - s) from fun q => by have := (nI_iff (by omega) (by omega)).mp q; omega), if_pos c, bd_e, R_2s]
    exact ⟨_, rfl, ⟨h.1.wHas, h.2.up hI.1 (by omega) (by omega)⟩, fun i l1 l2 => up2_o (by omega), fun i l1 l2 => up2_o (by omega), by rw [up2_o (by omega)], fun _ _ => rfl⟩
  · rw [if_pos (show nI (g 2 / 2) = nI (1 - s) by rw [show g 2 / 2 = 1 - s by omega]), if_neg c]
    exact ⟨σ, rfl, h, FC.rf⟩
theorem C_cellsHeld {σ : IM} {ρ : RM} {kf : KF} {μ : IM} {f : Nat → Nat} (hf : Now σ ρ kf μ f) (h0 : 0 < f 0) {s w v : Nat} (hs : s < 2) (hw : w < 2) (hv : v < (if w = 0 then 2 else 4)) : ∃ σ' ρ', X11_cellsHeld kf σ ρ (nI s) (nI w) (nI v) = some (nI (cntN (fun c => 1 - brN (gsN f s w v) c) 9), σ', ρ') ∧ FC σ ρ σ' ρ' := by
  have hI := hf.1
  refine loop_i (σ := IM × RM) (fun n i z => ∃ σ' ρ', X11_cellsHeld_b6 kf n (nI s) (nI w) (nI v) (nI (cntN (fun c => 1 - brN (gsN f s w v) c) i)) (nI i) z.1 z.2 = some (nI (cntN (fun c => 1 - brN (gsN f s w v) c) 9), σ', ρ') ∧ FC σ ρ σ' ρ') (fun i z => FC σ ρ z.1 z.2) 9 ?_ ?_ 1000 0 (σ, ρ) (by omega) (by omega) FC.rf
  · rintro n ⟨τ, ω⟩ fc
    refine ⟨τ, ω, ?_, fc⟩
    show X11_cellsHeld_s6 kf _ (nI s) (nI w) (nI v) (nI (cntN (fun c => 1 - brN (gsN f s w v) c) 9)) (nI 9) τ ω = _
    unfold X11_cellsHeld_s6
    rw [if_pos (show (9 : Int32) ≤ nI 9 by decide)]
  · rintro n i ⟨τ, ω⟩ hi fc kk
    have hn : Now τ ω kf μ f := hf.fr fc FR.rf
    obtain ⟨τ1, ω1, b1, m1, g1, -⟩ := M_become hn
    obtain ⟨x1, x2⟩ := C_adopt (kf := kf) (ρ := ω1) m1.1 hs hw hv
    have iv : Inv (fup f (36 + 3 * s + w) v) := hI.up 0 s (by split at hv <;> omega)
    have m2 : MC (up2 τ1 (10 + 5 + w) s (nI v)) ω1 kf (fup f (36 + 3 * s + w) v) := ⟨x2, m1.2.up hI.1 (by omega) (by omega)⟩
    have g2 : FC τ1 ω1 (up2 τ1 (10 + 5 + w) s (nI v)) ω1 := ⟨fun i l1 l2 => up2_o (by omega), fun i l1 l2 => up2_o (by omega), by rw [up2_o (by omega)], fun _ _ => rfl⟩
    obtain ⟨τ3, b3, m3, g3⟩ := M_give m2 iv hs
    obtain ⟨y1, y2⟩ := gsN_Inv hI hs hw hv
    obtain ⟨τ4, b4, g4⟩ := M_broken m3 y1 (by show 0 < gsN f s w v 0; omega) hi
    show ∃ σ' ρ', X11_cellsHeld_s6 kf (X11_cellsHeld_b6 kf n) (nI s) (nI w) (nI v) (nI (cntN (fun c => 1 - brN (gsN f s w v) c) i)) (nI i) τ ω = _ ∧ _
    unfold X11_cellsHeld_s6 X11_cellsHeld_b57
    rw [if_neg (show ¬ (9 : Int32) ≤ nI i from nI_ge (b := 9) hi (by omega)), b1, bd2_s, x1, bd3_s, b3, bd2_s, b4, bd3_s]
    have k2 := kk (τ4, ω1) ((((fc.tr g1).tr g2).tr g3).tr g4)
    have e : brN (gvN s (fup f (36 + 3 * s + w) v)) i = brN (gsN f s w v) i := rfl
    have b01 : brN (gsN f s w v) i = 0 ∨ brN (gsN f s w v) i = 1 := by
      unfold brN
      split
      · exact Or.inr rfl
      · split
        · exact Or.inl rfl
        · exact ptB_or _ _ _
    have ce : cntN (fun c => 1 - brN (gsN f s w v) c) (i + 1) = cntN (fun c => 1 - brN (gsN f s w v) c) i + (1 - brN (gsN f s w v) i) := rfl
    rw [e]
    simp only [bd_e, nI_1]
    rcases b01 with q | q
    · rw [q, if_pos z00]
      rw [ce, q] at k2
      exact k2
    · rw [q, if_neg z10]
      rw [ce, q] at k2
      exact k2
theorem N_held {μ : IM} {f : Nat → Nat} (hA : RA (μ 1) f) (hI : Inv f) (h0 : 0 < f 0) {s w v c : Nat} (hs : s < 2) (hw : w < 2) (hv : v < (if w = 0 then 2 else 4)) (hc : c < 9) : ∃ μ', X12_isHeld μ (nI s) (nI w) (nI v) (nI c) = some (nI (1 - brN (gsN f s w v) c), μ') ∧ FR μ μ' := by
  have h2 := hI.2.1
  obtain ⟨ν1, e1, a1, g1, -⟩ := N_copies hA
  obtain ⟨y1, y2⟩ := gsN_Inv hI hs hw hv
  have run : ∀ ν, RA (ν 2) (gsN f s w v) → FR μ ν → ∃ μ', X12_isHeld_b46 (nI c) ν = some (nI (1 - brN (gsN f s w v) c), μ') ∧ FR μ μ' := by
    intro ν hA hF
    generalize hg : gsN f s w v = g at *
    obtain ⟨ν1, e1, m1, g1, -⟩ := N_hits (k := 0) (x := c) hA y1 (by omega) hc
    have hI1 := hitN_Inv (k := 0) (c := c) y1 (by omega) hc
    have z1 := f1_0 (k := 0) (c := c) y1
    obtain ⟨ν2, e2, m2, g2, -⟩ := N_hits (k := 0) (x := 4) m1 hI1 (by omega) (by omega)
    have hI2 := hitN_Inv (k := 0) (c := 4) hI1 (by omega) (by omega)
    have z2 := f1_0 (k := 0) (c := 4) hI1
    obtain ⟨ν3, e3, m3, g3, -⟩ := N_hits (k := 0) (x := 8 - c) m2 hI2 (by omega) (by omega)
    unfold X12_isHeld_b46 X12_isHeld_b92 brN
    rw [show X12_hits ν 2 0 (nI c) = _ from e1, bd2_s]
    rcases ptB_or g 0 c with p | p
    · rw [p, if_pos z00, if_neg (by omega), show X12_hits ν1 2 0 4 = _ from e2, bd2_s]
      rcases ptB_or (hitN g 0 c) 0 4 with p | p
      · rw [p, if_pos z00, if_neg (by omega), show (8 : Int32) - nI c = nI (8 - c) from nI_sub (a := 8) (by omega), show X12_hits ν2 2 0 (nI (8 - c)) = _ from e3, bd2_s]
        refine ⟨ν3, ?_, ((hF.tr g1).tr g2).tr g3⟩
        rcases ptB_or (hitN (hitN g 0 c) 0 4) 0 (8 - c) with p | p <;> rw [p] <;> rfl
      · rw [p, if_neg z10, if_pos rfl]
        exact ⟨ν2, rfl, (hF.tr g1).tr g2⟩
    · rw [p, if_neg z10, if_pos rfl]
      exact ⟨ν1, rfl, hF.tr g1⟩
  unfold X12_isHeld
  rw [e1, bd1_s, R_ofSn, bd1_s, wrN (by omega) (by omega), rd42_2]
  have a2 : RA (up2 ν1 2 (36 + 3 * s + w) (nI v) 2) (fup f (36 + 3 * s + w) v) := a1.w (by omega)
  have g2 : FR μ (up2 ν1 2 (36 + 3 * s + w) (nI v)) := g1.tr ⟨up2_o (by omega), up2_o (by omega), fun i hi => up2_o (by omega), by rw [up2_o (by omega)]⟩
  have v2 := a2.1 2 (by omega) (by omega)
  have w2 : fup f (36 + 3 * s + w) v 2 = f 2 := fup_o (by omega)
  rw [v2, w2, R_sideOf h2, bd1_s]
  have hgs : gsN f s w v = if f 2 / 2 = s then fup (fup f (36 + 3 * s + w) v) 2 (2 * (1 - s)) else fup f (36 + 3 * s + w) v := by
    unfold gsN gvN
    rw [w2]
  by_cases c : f 2 / 2 = s
  · rw [if_pos c] at hgs
    rw [if_pos (by rw [c]), wr42_2, show (1 : Int32) - nI s = nI (1 - s) from nI_sub (a := 1) (by omega), R_2s]
    refine run _ ?_ (g2.tr ⟨up2_o (by omega), up2_o (by omega), fun i hi => up2_o (by omega), by rw [up2_o (by omega)]⟩)
    rw [hgs]
    exact a2.w (by omega)
  · rw [if_neg c] at hgs
    rw [if_neg (show ¬ nI (f 2 / 2) = nI s from fun q => c ((nI_iff (by omega) (by omega)).mp q))]
    refine run _ ?_ g2
    rw [hgs]
    exact a2
theorem E_best {σ : IM} {ρ : RM} {kf : KF} {μ : IM} (h : All σ ρ kf μ) (w many : Nat) (hw : w < 2) (hm : many = if w = 0 then 2 else 4) (a1 a2 : Int32) : Same3 kf (X11_bestTrait kf σ ρ a1 (nI w) a2) (X12_bestOf μ a1 (nI w) (nI many) a2) := by
  unfold X11_bestTrait X12_bestOf
  obtain ⟨⟨f, hf⟩, hr⟩ := h
  have h0 : All σ ρ kf μ := ⟨⟨f, hf⟩, hr⟩
  have hI := hf.1
  have hN := hI.1
  have hA := hf.2.2.2.2
  have hm4 : many ≤ 4 := by split at hm <;> omega
  have ech : X1_choices (nI w) = some (nI many) := by
    rcases (show w = 0 ∨ w = 1 by omega) with rfl | rfl
    · rw [hm]
      rfl
    · rw [hm]
      rfl
  rcases rng a1 2 (by omega) with ⟨s, hs, rfl, q1, q2⟩ | ⟨q1, q2, -⟩
  · rw [show X11_isBelow (nI s) 2 = some 1 from q1, show X12_isIn (nI s) 0 1 = some 1 from q2, bd1_s, bd1_s, if_neg n10, if_neg n10]
    rcases rng a2 2 (by omega) with ⟨t, ht, rfl, w1, w2⟩ | ⟨w1, w2, -⟩
    · rw [show X11_isBelow (nI t) 2 = some 1 from w1, show X12_isIn (nI t) 0 1 = some 1 from w2, bd1_s, bd1_s, if_neg n10, if_neg n10, rd42_0, hf.2.2.1.known, hA.1 0 (by omega) (by omega)]
      by_cases z : f 0 = 0
      · refine Same3.no h0 (r := -3) ?_ ?_
        · rw [z]
          rfl
        · rw [z]
          rfl
      · have nz : ¬ nI (f 0) = 0 := nI_ne0 (by omega) (by omega)
        rw [if_neg nz, if_neg nz]
        refine loop_i (σ := (Int32 × Int32) × IM × RM × IM) (fun n i z => Same3 kf (X11_bestTrait_b40 kf n (nI s) (nI w) (nI t) z.1.1 z.1.2 (nI i) z.2.1 z.2.2.1) (X12_bestOf_b42 n (nI s) (nI w) (nI many) (nI t) z.1.1 z.1.2 (nI i) z.2.2.2)) (fun i z => FC σ ρ z.2.1 z.2.2.1 ∧ FR μ z.2.2.2) many ?_ ?_ 1000 0 ((0, -1), σ, ρ, μ) (by omega) (by omega) ⟨FC.rf, FR.rf⟩
        · rintro n ⟨⟨be, mo⟩, τ, ω, ν⟩ ⟨fc, fr⟩
          show Same3 kf (X11_bestTrait_s40 kf _ (nI s) (nI w) (nI t) be mo (nI many) τ ω) (X12_bestOf_s42 _ (nI s) (nI w) (nI many) (nI t) be mo (nI many) ν)
          unfold X11_bestTrait_s40 X12_bestOf_s42
          rw [ech, bd1_s, if_pos (nI_le (Nat.le_refl _) (by omega)), if_pos (nI_le (Nat.le_refl _) (by omega))]
          have fin := h0.fr fc fr
          rcases (show t = 0 ∨ t = 1 by omega) with rfl | rfl
          · exact ⟨_, _, _, _, rfl, rfl, fin⟩
          · exact ⟨_, _, _, _, rfl, rfl, fin⟩
        · rintro n i ⟨⟨be, mo⟩, τ, ω, ν⟩ hi ⟨fc, fr⟩ kk
          have hv : i < (if w = 0 then 2 else 4) := by omega
          have hn : Now τ ω kf ν f := hf.fr fc fr
          obtain ⟨τ1, ω1, b1, g1⟩ := C_cellsHeld hn (by omega) hs hw hv
          show Same3 kf (X11_bestTrait_s40 kf (X11_bestTrait_b40 kf n) (nI s) (nI w) (nI t) be mo (nI i) τ ω) (X12_bestOf_s42 (X12_bestOf_b42 n) (nI s) (nI w) (nI many) (nI t) be mo (nI i) ν)
          unfold X11_bestTrait_s40 X12_bestOf_s42
          rw [ech, bd1_s, if_neg (nI_ge (by omega) (by omega)), if_neg (nI_ge (by omega) (by omega)), b1, bd3_s]
          have key : ∃ ν', FR ν ν' ∧ X12_bestOf_b54 (X12_bestOf_b42 n) 1000 (nI s) (nI w) (nI many) (nI t) be mo (nI i) 0 0 ν = (if mo < nI (cntN (fun c => 1 - brN (gsN f s w i) c) 9) then (X12_bestOf_b108 (X12_bestOf_b42 n) (nI s) (nI w) (nI many) (nI t) (nI i) (nI (cntN (fun c => 1 - brN (gsN f s w i) c) 9)) (nI i) ν') else (X12_bestOf_b108 (X12_bestOf_b42 n) (nI s) (nI w) (nI many) (nI t) be mo (nI i) ν')) := by
            refine loop_i (σ := IM) (fun n' x ξ => ∃ ν', FR ν ν' ∧ X12_bestOf_b54 (X12_bestOf_b42 n) n' (nI s) (nI w) (nI many) (nI t) be mo (nI i) (nI (cntN (fun c => 1 - brN (gsN f s w i) c) x)) (nI x) ξ = (if mo < nI (cntN (fun c => 1 - brN (gsN f s w i) c) 9) then (X12_bestOf_b108 (X12_bestOf_b42 n) (nI s) (nI w) (nI many) (nI t) (nI i) (nI (cntN (fun c => 1 - brN (gsN f s w i) c) 9)) (nI i) ν') else (X12_bestOf_b108 (X12_bestOf_b42 n) (nI s) (nI w) (nI many) (nI t) be mo (nI i) ν'))) (fun x ξ => FR ν ξ) 9 ?_ ?_ 1000 0 ν (by omega) (by omega) FR.rf
            · intro n' ξ hξ
              refine ⟨ξ, hξ, ?_⟩
              show X12_bestOf_s54 (X12_bestOf_b42 n) _ (nI s) (nI w) (nI many) (nI t) be mo (nI i) (nI (cntN (fun c => 1 - brN (gsN f s w i) c) 9)) (nI 9) ξ = _
              unfold X12_bestOf_s54
              rw [if_pos (show (9 : Int32) ≤ nI 9 by decide)]
            · intro n' x ξ hx hξ kx
              obtain ⟨ξ1, e1, g1⟩ := N_held (μ := ξ) (f := f) (s := s) (w := w) (v := i) (c := x) (by rw [hξ.1]; exact hn.2.2.2.2) hI (by omega) hs hw hv hx
              have k2 := kx ξ1 (hξ.tr g1)
              show ∃ ν', FR ν ν' ∧ X12_bestOf_s54 (X12_bestOf_b42 n) (X12_bestOf_b54 (X12_bestOf_b42 n) n') (nI s) (nI w) (nI many) (nI t) be mo (nI i) (nI (cntN (fun c => 1 - brN (gsN f s w i) c) x)) (nI x) ξ = _
              unfold X12_bestOf_s54 X12_bestOf_b81
              rw [if_neg (show ¬ (9 : Int32) ≤ nI x from nI_ge (b := 9) hx (by omega)), e1, bd2_s]
              have ce : cntN (fun c => 1 - brN (gsN f s w i) c) (x + 1) = cntN (fun c => 1 - brN (gsN f s w i) c) x + (1 - brN (gsN f s w i) x) := rfl
              rw [ce] at k2
              simp only [bd_e, nI_1, Int32.add_zero]
              rcases (show 1 - brN (gsN f s w i) x = 0 ∨ 1 - brN (gsN f s w i) x = 1 by omega) with q | q
              · rw [q, if_pos z00]
                rw [q] at k2
                exact k2
              · rw [q, if_neg z10]
                rw [q] at k2
                exact k2
          obtain ⟨ν', fr', ek⟩ := key
          rw [ek]
          unfold X11_bestTrait_b74 X12_bestOf_b108
          simp only [bd_e, nI_1]
          have fin : FC σ ρ τ1 ω1 ∧ FR μ ν' := ⟨fc.tr g1, fr.tr fr'⟩
          by_cases c : mo < nI (cntN (fun c => 1 - brN (gsN f s w i) c) 9)
          · rw [if_pos c, if_neg (Int32.not_le.mpr c)]
            exact kk ((nI i, nI (cntN (fun c => 1 - brN (gsN f s w i) c) 9)), τ1, ω1, ν') fin
          · rw [if_neg c, if_pos (Int32.not_lt.mp c)]
            exact kk ((be, mo), τ1, ω1, ν') fin
    · exact Same3.no h0 (r := -1) (by rw [show X11_isBelow a2 2 = some 0 from w1]; rfl) (by rw [show X12_isIn a2 0 1 = some 0 from w2]; rfl)
  · exact Same3.no h0 (r := -1) (by rw [show X11_isBelow a1 2 = some 0 from q1]; rfl) (by rw [show X12_isIn a1 0 1 = some 0 from q2]; rfl)
theorem E_bestForm {σ : IM} {ρ : RM} {kf : KF} {μ : IM} (h : All σ ρ kf μ) (a1 a2 : Int32) : Same3 kf (X11_bestForm kf σ ρ a1 a2) (X12_bestForm μ a1 a2) := by
  obtain ⟨r, σ', ρ', μ', e1, e2, a⟩ := E_best h 0 2 (by omega) rfl a1 a2
  refine ⟨r, σ', ρ', μ', ?_, ?_, a⟩
  · unfold X11_bestForm
    rw [show X11_bestTrait kf σ ρ a1 0 a2 = _ from e1]
    rfl
  · unfold X12_bestForm
    rw [show X12_bestOf μ a1 0 2 a2 = _ from e2]
    rfl
theorem E_bestHabit {σ : IM} {ρ : RM} {kf : KF} {μ : IM} (h : All σ ρ kf μ) (a1 a2 : Int32) : Same3 kf (X11_bestHabit kf σ ρ a1 a2) (X12_bestHabit μ a1 a2) := by
  obtain ⟨r, σ', ρ', μ', e1, e2, a⟩ := E_best h 1 4 (by omega) rfl a1 a2
  refine ⟨r, σ', ρ', μ', ?_, ?_, a⟩
  · unfold X11_bestHabit
    rw [show X11_bestTrait kf σ ρ a1 1 a2 = _ from e1]
    rfl
  · unfold X12_bestHabit
    rw [show X12_bestOf μ a1 1 4 a2 = _ from e2]
    rfl
