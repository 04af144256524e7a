/-! hit; what a shelf holds; learns -/
theorem RA_pt {a : Nat → Int32} {f : Nat → Nat} (h : RA a f) {i : Nat} (hi : i < 42) (h3 : i ≠ 3) : a i = nI (f i) := h.1 i hi h3
theorem E_hit {σ : IM} {ρ : RM} {kf : KF} {μ : IM} (h : All σ ρ kf μ) (a1 a2 : Int32) : Same3 kf (X11_hit kf σ ρ a1 a2) (X12_hit μ a1 a2) := by
  unfold X11_hit X1_hitRefusal
  obtain ⟨⟨f, hf⟩, hr⟩ := h
  have h0 : All σ ρ kf μ := ⟨⟨f, hf⟩, hr⟩
  have hN := hf
  obtain ⟨hI, hB, hC, hS, hA⟩ := hf
  have eR : X12_hit μ a1 a2 = bd1 (X12_isHit μ a1 a2) fun r => if r = 0 then some (-1, μ) else (bd1 (X12_isOver μ) fun r5 => if r5 = 0 then (bd2 (X12_hits μ 1 a1 a2) fun r9 σ7 => rd (σ7 1) 42 2 fun v10 => some (v10, σ7)) else (some ((-3), μ))) := by
    unfold X12_hit X12_isHit
    cases X12_isStroke μ a1 with
    | none => rfl
    | some r =>
      simp only [bd1_s]
      by_cases e : r = 0
      · rw [if_pos e, if_pos e]
        rfl
      · rw [if_neg e, if_neg e]
        cases X12_isCell a2 with
        | none => rfl
        | some r' =>
          simp only [bd1_s]
          by_cases e' : r' = 0
          · rw [if_pos e', if_pos e']
            rfl
          · rw [if_neg e', if_neg e']
            simp only [bd1_s]
            rw [if_neg n10]
  rw [eR]
  rcases isHi hN a1 a2 with ⟨k, c, hk, hc, rfl, rfl, q1, q2⟩ | ⟨q1, q2⟩
  · rw [q1, q2, bd1_s, bd1_s, if_neg n10, if_neg n10]
    have a1' := hA.1 1 (by omega) (by omega)
    have a38 := hA.1 38 (by omega) (by omega)
    have a41 := hA.1 41 (by omega) (by omega)
    have p0 := hC.points (s := 0) (by omega)
    have p1 := hC.points (s := 1) (by omega)
    have hh := hC.hits
    by_cases ov : f 1 = 999 ∨ f 38 = 99 ∨ f 41 = 99
    · refine Same3.no h0 (r := -3) ?_ ?_
      · unfold X1_hitRefusal_b43 X1_hitRefusal_b48
        rw [hh, rd2_0, rd2_1, p0, p1]
        simp only [lit32, Nat.mul_zero, Nat.add_zero]
        by_cases o1 : 999 ≤ f 1
        · rw [if_pos (show nI 999 ≤ nI (f 1) from nI_le o1 (by omega))]
          rfl
        · rw [if_neg (show ¬ nI 999 ≤ nI (f 1) from nI_ge (by omega) (by omega))]
          by_cases o2 : 99 ≤ f 38
          · rw [if_pos (show nI 99 ≤ nI (f 38) from nI_le o2 (by omega))]
            rfl
          · rw [if_neg (show ¬ nI 99 ≤ nI (f 38) from nI_ge (by omega) (by omega)), if_neg (show ¬ nI (f 41) < nI 99 from nI_nlt (by omega) (by omega))]
            rfl
      · unfold X12_isOver X12_isOver_b42
        have e0 : X12_ofSide 0 2 = some (nI 38) := rfl
        have e1 : X12_ofSide 1 2 = some (nI 41) := rfl
        rw [rd42_1, a1', e0, bd1_s, rdN (by omega) (by omega), a38, e1, bd1_s, rdN (by omega) (by omega), a41]
        simp only [lit32]
        simp (disch := omega) only [nI_iff]
        by_cases o1 : f 1 = 999
        · rw [if_pos o1]
          rfl
        · rw [if_neg o1]
          by_cases o2 : f 38 = 99
          · rw [if_pos o2]
            rfl
          · rw [if_neg o2, if_pos (by omega)]
            rfl
    · have cr : X1_hitRefusal_b48 kf σ ρ 1 0 = some 0 := rfl
      have e0 : X12_ofSide 0 2 = some (nI 38) := rfl
      have e1 : X12_ofSide 1 2 = some (nI 41) := rfl
      have eo : X12_isOver μ = some 0 := by
        unfold X12_isOver
        rw [rd42_1, a1', e0, bd1_s, rdN (by omega) (by omega), a38, e1, bd1_s, rdN (by omega) (by omega), a41]
        simp only [lit32]
        simp (disch := omega) only [nI_iff]
        rw [if_neg (by omega), if_neg (by omega), if_neg (by omega)]
      rw [eo, bd1_s, if_pos rfl, hh, rd2_0, rd2_1, p0, p1, if_neg (show ¬ (999 : Int32) ≤ nI (f 1) from nI_ge (b := 999) (by omega) (by omega)), if_neg (show ¬ (99 : Int32) ≤ nI (f (38 + 3 * 0)) from nI_ge (b := 99) (show f 38 < 99 by omega) (by omega)), if_pos (show nI (f (38 + 3 * 1)) < (99 : Int32) from nI_lt (b := 99) (show f 41 < 99 by omega) (by omega)), cr, bd1_s, if_pos rfl]
      obtain ⟨σ', x1, x2, x3⟩ := C_strike hC hS hI hk hc
      obtain ⟨μ', y1, y2, y3, -⟩ := R_hits hA (by omega) hI hk hc
      rw [x1, y1, bd3_s, bd2_s, rd42_2, y2.1 2 (by omega) (by omega), x2.has]
      have g1 := hitN_1 (k := k) (c := c) hI.2.1
      have g2 := hitN_pt (k := k) (c := c) (s := 0) hI.2.1 (by omega)
      have g3 := hitN_pt (k := k) (c := c) (s := 1) hI.2.1 (by omega)
      refine ⟨_, σ', ρ, μ', rfl, rfl, ⟨hitN f k c, hitN_Inv hI hk hc, ⟨by omega, ?_, ?_⟩, x2, hS.hit hI k c, y2⟩, hr.keep ⟨fun i l1 l2 => x3 i (by omega), by rw [x3 0 (by omega)], fun _ _ _ => rfl⟩ ⟨y3 3 (by omega) (by omega), fun i hi => y3 i (by omega) (by omega), by rw [y3 0 (by omega) (by omega)]⟩⟩
      · rw [show 38 + 3 * 0 = 38 from rfl] at g2
        rw [g2]
        split <;> omega
      · rw [show 38 + 3 * 1 = 41 from rfl] at g3
        rw [g3]
        split <;> omega
  · exact Same3.no h0 (r := -1) (by rw [q1]; rfl) (by rw [q2]; rfl)
/-! what a shelf holds -/
theorem isSh (x : Int32) : (∃ d, d < 8 ∧ x = nI d ∧ X11_isBelow x 8 = some 1 ∧ X12_isShelf x = some 1) ∨ (X11_isBelow x 8 = some 0 ∧ X12_isShelf x = some 0) := by
  rcases rng x 8 (by omega) with ⟨k, hk, rfl, q1, q2⟩ | ⟨q1, q2, -⟩
  · refine Or.inl ⟨k, hk, rfl, q1, ?_⟩
    unfold X12_isShelf
    rw [show (7 : Int32) = nI 8 - 1 from rfl, q2]
    rfl
  · refine Or.inr ⟨q1, ?_⟩
    unfold X12_isShelf
    rw [show (7 : Int32) = nI 8 - 1 from rfl, q2]
    rfl
abbrev ShN (σ : IM) (ρ : RM) (μ : IM) (d : Nat) : Prop := μ 7 d = 0 ∧ σ (29 + 2 * d) 2 = -1 ∧ ρ (29 + 2 * d) 1 = none
abbrev ShK (σ : IM) (ρ : RM) (kf : KF) (μ : IM) (d q k fg : Nat) : Prop := μ 7 d = 1 ∧ σ (29 + 2 * d) 2 = -1 ∧ ρ (29 + 2 * d) 1 = some q ∧ k < 8 ∧ fg < 10 ∧ kf q = some (k, nI fg) ∧ μ 8 d = nI k ∧ μ 9 d = nI fg
abbrev ShR (σ : IM) (ρ : RM) (μ : IM) (d so sz : Nat) : Prop := μ 7 d = 2 ∧ ρ (29 + 2 * d) 1 = none ∧ so < 3 ∧ sz ≤ 100 ∧ σ (29 + 2 * d) 2 = nI so ∧ μ 10 d = nI so ∧ σ (29 + 2 * d) 3 = nI sz ∧ μ 11 d = nI sz ∧ (∀ i, i < sz → σ (29 + 2 * d + 1) i = μ 12 (100 * d + i)) ∧ (so = 0 → ∀ i, i < sz → ByteR (μ 12 (100 * d + i)))
theorem ShE.cases {σ : IM} {ρ : RM} {kf : KF} {μ : IM} {d : Nat} (h : ShE σ ρ kf μ d) : ShN σ ρ μ d ∨ (∃ q k fg, ShK σ ρ kf μ d q k fg) ∨ ∃ so sz, ShR σ ρ μ d so sz := by
  rcases h with h | ⟨a, b, q, k, fg, c, i1, i2, i3, i4, i5⟩ | ⟨a, b, so, sz, c⟩
  · exact Or.inl h
  · exact Or.inr (Or.inl ⟨q, k, fg, a, b, c, i1, i2, i3, i4, i5⟩)
  · exact Or.inr (Or.inr ⟨so, sz, a, b, c⟩)
theorem nI_m1 {n : Nat} (h : n < 1000) : ¬ nI n = -1 := by
  intro e
  have := nI_pos (n := n) (by omega)
  rw [e] at this
  exact this (by decide)
/-- what ours says of a shelf: nothing, a stroke, a row -/
theorem ref_N {σ : IM} {ρ : RM} {kf : KF} {μ : IM} {d : Nat} (hd : d < 8) (h : ShN σ ρ μ d) (w : Int32) : X11_refusalOf kf σ ρ (nI d) w = some (-11) := by
  have b1 : X11_isBelow (nI d) 8 = some 1 := by rw [show (8 : Int32) = nI 8 from rfl, C_isBelow (by omega) (by omega), if_pos hd]
  unfold X11_refusalOf X7_isBare X7_isRow
  rw [b1, bd1_s, if_neg n10, ixN (by omega) (by omega), h.2.2, h.2.1]
  rfl
theorem ref_K {σ : IM} {ρ : RM} {kf : KF} {μ : IM} {d q k fg : Nat} (hd : d < 8) (h : ShK σ ρ kf μ d q k fg) (w : Int32) : X11_refusalOf kf σ ρ (nI d) w = some (if 0 = w then 0 else -12) := by
  have b1 : X11_isBelow (nI d) 8 = some 1 := by rw [show (8 : Int32) = nI 8 from rfl, C_isBelow (by omega) (by omega), if_pos hd]
  unfold X11_refusalOf X7_isBare X7_isRow
  rw [b1, bd1_s, if_neg n10, ixN (by omega) (by omega), ixN (by omega) (by omega), h.2.2.1, h.2.1]
  simp only [oc, bd1_s, if_true]
  split <;> rfl
theorem ref_R {σ : IM} {ρ : RM} {kf : KF} {μ : IM} {d so sz : Nat} (hd : d < 8) (h : ShR σ ρ μ d so sz) (w : Int32) : X11_refusalOf kf σ ρ (nI d) w = some (if 1 = w then 0 else -12) := by
  have b1 : X11_isBelow (nI d) 8 = some 1 := by rw [show (8 : Int32) = nI 8 from rfl, C_isBelow (by omega) (by omega), if_pos hd]
  unfold X11_refusalOf X7_isBare X7_isRow
  rw [b1, bd1_s, if_neg n10, ixN (by omega) (by omega), ixN (by omega) (by omega), h.2.1, h.2.2.2.2.1, if_neg (nI_m1 (by have := h.2.2.1; omega))]
  simp only [oc, bd1_s, if_neg n10, if_true]
  split <;> rfl
theorem wK {μ : IM} {d : Nat} (hd : d < 8) (v : Int32) (e : μ 7 d = v) : X12_wrongKept μ (nI d) = some (if v = 0 then -11 else if v = 2 then -12 else 0) := by
  have b1 : X12_isShelf (nI d) = some 1 := by
    have : ∀ d, d < 8 → X12_isShelf (nI d) = some 1 := by decide +kernel
    exact this d hd
  unfold X12_wrongKept
  rw [b1, bd1_s, if_neg n10, rdN (by omega) (by omega), rdN (by omega) (by omega), e]
  split
  · rfl
  · split <;> rfl
theorem wR {μ : IM} {d : Nat} (hd : d < 8) (v : Int32) (e : μ 7 d = v) (w : Int32) : X12_wrongRow μ (nI d) w = some (if v = 0 then -11 else if v = 2 then (if w < 0 then 0 else if μ 10 d = w then 0 else -12) else -12) := by
  have b1 : X12_isShelf (nI d) = some 1 := by
    have : ∀ d, d < 8 → X12_isShelf (nI d) = some 1 := by decide +kernel
    exact this d hd
  unfold X12_wrongRow X12_wrongRow_b49
  rw [b1, bd1_s, if_neg n10, rdN (by omega) (by omega), rdN (by omega) (by omega), rdN (by omega) (by omega), e]
  split
  · rfl
  · split
    · split
      · rfl
      · split <;> rfl
    · rfl
/-- a stroke is wanted -/
theorem wantK {σ : IM} {ρ : RM} {kf : KF} {μ : IM} (h : ∀ d, d < 8 → ShE σ ρ kf μ d) (x : Int32) : (∃ d q k fg, d < 8 ∧ x = nI d ∧ ShK σ ρ kf μ d q k fg ∧ X11_refusalOf kf σ ρ x 0 = some 0 ∧ X12_wrongKept μ x = some 0) ∨ ∃ r, r ≠ 0 ∧ X11_refusalOf kf σ ρ x 0 = some r ∧ X12_wrongKept μ x = some r := by
  rcases isSh x with ⟨d, hd, rfl, q1, q2⟩ | ⟨q1, q2⟩
  · rcases (h d hd).cases with g | ⟨q, k, fg, g⟩ | ⟨so, sz, g⟩
    · exact Or.inr ⟨-11, by decide, ref_N hd g 0, by rw [wK hd _ g.1]; rfl⟩
    · exact Or.inl ⟨d, q, k, fg, hd, rfl, g, ref_K hd g 0, by rw [wK hd _ g.1]; rfl⟩
    · exact Or.inr ⟨-12, by decide, ref_R hd g 0, by rw [wK hd _ g.1]; rfl⟩
  · refine Or.inr ⟨-1, by decide, ?_, ?_⟩
    · unfold X11_refusalOf
      rw [q1]
      rfl
    · unfold X12_wrongKept
      rw [q2]
      rfl
/-- a row is wanted (of sort w, if that isn't below 0) -/
theorem wantR {σ : IM} {ρ : RM} {kf : KF} {μ : IM} (h : ∀ d, d < 8 → ShE σ ρ kf μ d) (x : Int32) : (∃ d so sz, d < 8 ∧ x = nI d ∧ ShR σ ρ μ d so sz ∧ X11_refusalOf kf σ ρ x 1 = some 0 ∧ ∀ w, X12_wrongRow μ x w = some (if w < 0 then 0 else if nI so = w then 0 else -12)) ∨ ∃ r, r ≠ 0 ∧ X11_refusalOf kf σ ρ x 1 = some r ∧ ∀ w, X12_wrongRow μ x w = some r := by
  rcases isSh x with ⟨d, hd, rfl, q1, q2⟩ | ⟨q1, q2⟩
  · rcases (h d hd).cases with g | ⟨q, k, fg, g⟩ | ⟨so, sz, g⟩
    · exact Or.inr ⟨-11, by decide, ref_N hd g 1, fun w => by rw [wR hd _ g.1]; rfl⟩
    · exact Or.inr ⟨-12, by decide, ref_K hd g 1, fun w => by rw [wR hd _ g.1]; rfl⟩
    · exact Or.inl ⟨d, so, sz, hd, rfl, g, ref_R hd g 1, fun w => by rw [wR hd _ g.1, g.2.2.2.2.2.1]; rfl⟩
  · refine Or.inr ⟨-1, by decide, ?_, fun w => ?_⟩
    · unfold X11_refusalOf
      rw [q1]
      rfl
    · unfold X12_wrongRow
      rw [q2]
      rfl
/-! learns -/
def lrN (f : Nat → Nat) (k fg : Nat) : Nat → Nat := fup (fup (fup f (4 + 2 * f 0) k) (5 + 2 * f 0) fg) 0 (f 0 + 1)
theorem lrN_o {f : Nat → Nat} {k fg j : Nat} (h0 : j ≠ 0) (h : j ≠ 4 + 2 * f 0) (h2 : j ≠ 5 + 2 * f 0) : lrN f k fg j = f j := by
  unfold lrN
  rw [fup_o h0, fup_o h2, fup_o h]
theorem lrN_Inv {f : Nat → Nat} {k fg : Nat} (hI : Inv f) (hN : f 0 < 8) (hk : k < 8) (hf : fg < 10) : Inv (lrN f k fg) := by
  obtain ⟨h0, h2, h3, h4, hP, hS⟩ := hI
  have e0 : lrN f k fg 0 = f 0 + 1 := fup_s
  refine ⟨by rw [e0]; omega, ?_, ?_, ?_, ?_, ?_⟩
  · rw [lrN_o (by omega) (by omega) (by omega)]
    exact h2
  · rw [lrN_o (by omega) (by omega) (by omega)]
    exact h3
  · intro j hj
    rw [e0] at hj
    by_cases e : j = f 0
    · subst e
      unfold lrN
      rw [fup_o (by omega), fup_o (by omega), fup_s, fup_o (by omega), fup_s]
      exact ⟨hk, hf⟩
    · rw [lrN_o (by omega) (by omega) (by omega), lrN_o (by omega) (by omega) (by omega)]
      exact h4 j (by omega)
  · intro p hp
    unfold InvP
    rw [lrN_o (by omega) (by omega) (by omega), lrN_o (by omega) (by omega) (by omega), lrN_o (by omega) (by omega) (by omega), lrN_o (by omega) (by omega) (by omega)]
    exact hP p hp
  · intro s hs
    rw [lrN_o (by omega) (by omega) (by omega), lrN_o (by omega) (by omega) (by omega)]
    exact hS s hs
theorem C_learn {σ : IM} {ρ : RM} {kf : KF} {c q k fg : Nat} {f : Nat → Nat} (hC : CR σ c f) (hS : SR ρ kf c f) (hN : f 0 < 8) (hq : kf q = some (k, nI fg)) : X1_learn kf σ ρ c q = some (nI (f 0), up2 σ c 8 (nI (f 0 + 1)), upr ρ (c + 8) (f 0) (some q)) ∧ CR (up2 σ c 8 (nI (f 0 + 1))) c (lrN f k fg) ∧ SR (upr ρ (c + 8) (f 0) (some q)) kf c (lrN f k fg) := by
  refine ⟨?_, ?_, ?_⟩
  · unfold X1_learn
    rw [hC.known, if_pos (show nI (f 0) < (8 : Int32) from nI_lt (b := 8) hN (by omega))]
    have w : ∀ (K : RM → Option (Int32 × IM × RM)), wq kf ρ (c + 8) 8 (nI (f 0)) q K = K (upr ρ (c + 8) (f 0) (some q)) := by
      intro K
      unfold wq
      rw [if_neg (nI_in (by omega) (by omega)), nI_clamp (by omega), hq, bd1_s]
    rw [w, nI_1, bd_e, up2_ss, show (1 : Int32) = nI 1 from rfl, nI_sub (by omega)]
    rfl
  · have h1 := hC.wKnown (v := f 0 + 1)
    intro o j hv
    rw [h1 o j hv]
    have ho : fl o j < 4 ∨ 20 ≤ fl o j := by
      unfold Vl at hv
      unfold fl
      (repeat' split) <;> omega
    have e : ∀ i, i < 4 ∨ 20 ≤ i → lrN f k fg i = fup f 0 (f 0 + 1) i := by
      intro i hi
      unfold lrN
      by_cases z : i = 0
      · subst z
        rw [fup_s, fup_s]
      · rw [fup_o z, fup_o z, fup_o (by omega), fup_o (by omega)]
    rw [e 3 (by omega), e _ ho]
  · intro j hj
    have e0 : lrN f k fg 0 = f 0 + 1 := fup_s
    rw [e0] at hj
    by_cases e : j = f 0
    · subst e
      refine ⟨q, by rw [upr_i, va_up_self], ?_⟩
      unfold lrN
      rw [fup_o (by omega), fup_o (by omega), fup_s, fup_o (by omega), fup_s]
      exact hq
    · obtain ⟨q', e1, e2⟩ := hS j (by omega)
      refine ⟨q', by rw [upr_i, va_up_ne _ _ e]; exact e1, ?_⟩
      rw [lrN_o (by omega) (by omega) (by omega), lrN_o (by omega) (by omega) (by omega)]
      exact e2
theorem R_adds {μ : IM} {k fg : Nat} {f : Nat → Nat} (hA : RA (μ 1) f) (hN : f 0 < 8) : X12_adds μ (nI k) (nI fg) = some (up2 (up2 (up2 μ 1 (4 + 2 * f 0) (nI k)) 1 (5 + 2 * f 0) (nI fg)) 1 0 (nI (f 0 + 1))) ∧ RA (up2 (up2 (up2 μ 1 (4 + 2 * f 0) (nI k)) 1 (5 + 2 * f 0) (nI fg)) 1 0 (nI (f 0 + 1)) 1) (lrN f k fg) := by
  refine ⟨?_, ((hA.w (by omega)).w (by omega)).w (by omega)⟩
  have a0 := hA.1 0 (by omega) (by omega)
  unfold X12_adds
  simp (disch := omega) only [rd42_0, wr42_0, wrN, R_ofS0, R_ofS1, bd1_s, a0, up2_oo, nI_1]
theorem E_learns {σ : IM} {ρ : RM} {kf : KF} {μ : IM} (h : All σ ρ kf μ) (a1 : Int32) : Same3 kf (X11_learns kf σ ρ a1) (X12_learns μ a1) := by
  unfold X11_learns X12_learns
  obtain ⟨⟨f, hf⟩, hr⟩ := h
  have h0 : All σ ρ kf μ := ⟨⟨f, hf⟩, hr⟩
  obtain ⟨hI, hB, hC, hS, hA⟩ := hf
  have a0 := hA.1 0 (by omega) (by omega)
  rcases wantK hr.2.1 a1 with ⟨d, q, k, fg, hd, rfl, g, q1, q2⟩ | ⟨r, hr0, q1, q2⟩
  · obtain ⟨g1, g2, g3, g4, g5, g6, g7, g8⟩ := g
    rw [q1, q2, bd1_s, bd1_s, if_pos rfl, if_pos rfl, ixN (by omega) (by omega), g3, bd1_s, rd42_0, a0, rdN (by omega) (by omega), rdN (by omega) (by omega), g7, g8]
    by_cases hN : f 0 = 8
    · refine Same3.no h0 (r := -2) ?_ ?_
      · unfold X1_learn
        rw [hC.known, hN]
        rfl
      · rw [hN]
        rfl
    · have hlt : f 0 < 8 := by have := hI.1; omega
      obtain ⟨x1, x2, x3⟩ := C_learn (c := 1) hC hS hlt g6
      obtain ⟨y1, y2⟩ := R_adds (k := k) (fg := fg) hA hlt
      rw [if_neg (show ¬ nI (f 0) = 8 from fun e => hN ((nI_iff (b := 8) (by omega) (by omega)).mp e)), x1, y1, bd3_s, bd1_s]
      refine ⟨nI (f 0), _, _, _, rfl, ?_, ⟨lrN f k fg, lrN_Inv hI hlt g4 g5, ?_, x2, x3, y2⟩, hr.keep ?_ KR.rf.up.up.up⟩
      · rw [rd42_0, up2_ss, show (1 : Int32) = nI 1 from rfl, nI_sub (by omega)]
        rfl
      · rw [lrN_o (by omega) (by omega) (by omega), lrN_o (by omega) (by omega) (by omega), lrN_o (by omega) (by omega) (by omega)]
        exact hB
      · have kk : KC σ ρ (up2 σ 1 8 (nI (f 0 + 1))) ρ := KC.rf.up (by omega) (by omega)
        exact ⟨kk.1, kk.2.1, fun i l1 l2 => upr_o (by omega)⟩
  · rw [q1, q2, bd1_s, bd1_s, if_neg hr0, if_neg hr0]
    exact Same3.no h0 rfl rfl
