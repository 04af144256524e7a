/-! shelves: rows, copies, costs -/
theorem byte2 (x : Int32) : x.toInt8.toInt32.toInt8.toInt32 = x.toInt8.toInt32 := by
  rw [Int8.toInt8_toInt32]
def ShQ (μ μ' : IM) (x : Nat) : Prop := μ' 7 x = μ 7 x ∧ μ' 8 x = μ 8 x ∧ μ' 9 x = μ 9 x ∧ μ' 10 x = μ 10 x ∧ μ' 11 x = μ 11 x ∧ ∀ i, i < 100 → μ' 12 (100 * x + i) = μ 12 (100 * x + i)
theorem All.sh {σ σ' : IM} {ρ ρ' : RM} {kf : KF} {μ μ' : IM} (h : All σ ρ kf μ) {e : Nat} (he : e < 8) (a : ∀ i, i ≠ 29 + 2 * e → i ≠ 29 + 2 * e + 1 → σ' i = σ i) (b : ∀ i, i ≠ 29 + 2 * e → ρ' i = ρ i) (c : ∀ i, i < 7 → μ' i = μ i) (q : ∀ x, x < 8 → x ≠ e → ShQ μ μ' x) (g : ShE σ' ρ' kf μ' e) : All σ' ρ' kf μ' := by
  obtain ⟨⟨f, hI, hB, hC, hS, hA⟩, h1, h2, h3⟩ := h
  refine ⟨⟨f, hI, hB, hC.congr (fun i l1 l2 => a i (by omega) (by omega)), hS.congr (b _ (by omega)), by rw [c 1 (by omega)]; exact hA⟩, ?_, ?_, ?_⟩
  · unfold Img at h1 ⊢
    rw [a 0 (by omega) (by omega), c 0 (by omega), c 3 (by omega)]
    rcases h1 with h1 | ⟨q1, q2, f, i1, i2, i3, i4, i5⟩
    · exact Or.inl h1
    · exact Or.inr ⟨q1, q2, f, i1, i2, i3.congr (fun i l1 l2 => a i (by omega) (by omega)), i4.congr (b _ (by omega)), i5⟩
  · intro d hd
    by_cases ed : d = e
    · rw [ed]
      exact g
    · obtain ⟨q1, q2, q3, q4, q5, q6⟩ := q d hd ed
      rcases (h2 d hd).cases with ⟨g1, g2, g3⟩ | ⟨w, k, fg, g1, g2, g3, g4, g5, g6, g7, g8⟩ | ⟨so, sz, g1, g2, g3, g4, g5, g6, g7, g8, g9, gb⟩
      · exact Or.inl ⟨q1.trans g1, by rw [a _ (by omega) (by omega)]; exact g2, by rw [b _ (by omega)]; exact g3⟩
      · exact Or.inr (Or.inl ⟨q1.trans g1, by rw [a _ (by omega) (by omega)]; exact g2, w, k, fg, by rw [b _ (by omega)]; exact g3, g4, g5, g6, q2.trans g7, q3.trans g8⟩)
      · refine Or.inr (Or.inr ⟨q1.trans g1, by rw [b _ (by omega)]; exact g2, so, sz, g3, g4, by rw [a _ (by omega) (by omega)]; exact g5, q4.trans g6, by rw [a _ (by omega) (by omega)]; exact g7, q5.trans g8, fun i hi => ?_, fun h0 i hi => ?_⟩)
        · rw [a _ (by omega) (by omega), q6 i (by omega)]
          exact g9 i hi
        · rw [q6 i (by omega)]
          exact gb h0 i hi
  · intro k hk
    rw [b _ (by omega)]
    exact h3 k hk
theorem isSo (x : Int32) : (∃ so, so < 3 ∧ x = nI so ∧ X11_isBelow x 3 = some 1 ∧ X12_isIn x 0 2 = some 1) ∨ (X11_isBelow x 3 = some 0 ∧ X12_isIn x 0 2 = some 0) := by
  rcases rng x 3 (by omega) with ⟨k, hk, rfl, q1, q2⟩ | ⟨q1, q2, -⟩
  · exact Or.inl ⟨k, hk, rfl, q1, q2⟩
  · exact Or.inr ⟨q1, q2⟩
theorem C_lay {σ : IM} {ρ : RM} {kf : KF} {d n : Nat} {a1 : Int32} (hd : d < 8) (hn : n ≤ 100) : ∃ σ', X7_lay kf σ ρ d a1 (nI n) = some (σ', upr ρ (29 + 2 * d) 1 none) ∧ (∀ i, i ≠ 29 + 2 * d → i ≠ 29 + 2 * d + 1 → σ' i = σ i) ∧ σ' (29 + 2 * d) 2 = a1 ∧ σ' (29 + 2 * d) 3 = nI n ∧ ∀ i, i < n → σ' (29 + 2 * d + 1) i = 0 := by
  unfold X7_lay X7_clear
  rw [bd_e, bd_e, bd2_s, bd_e, bd_e]
  obtain ⟨τ, eτ⟩ : ∃ z, z = up2 (up2 (up2 σ (29 + 2 * d) 2 (-1)) (29 + 2 * d) 2 a1) (29 + 2 * d) 3 (nI n) := ⟨_, rfl⟩
  rw [← eτ]
  have o1 : ∀ i, i ≠ 29 + 2 * d → τ i = σ i := fun i hi => by rw [eτ, up2_o hi, up2_o hi, up2_o hi]
  have o2 : τ (29 + 2 * d) 2 = a1 := by rw [eτ, up2_oo (by omega), up2_ss]
  have o3 : τ (29 + 2 * d) 3 = nI n := by rw [eτ, up2_ss]
  refine loop_i (σ := IM) (fun m i ξ => ∃ σ', X7_lay_b16 kf d m (nI n) (nI i) ξ (upr ρ (29 + 2 * d) 1 none) = some (σ', upr ρ (29 + 2 * d) 1 none) ∧ (∀ i, i ≠ 29 + 2 * d → i ≠ 29 + 2 * d + 1 → σ' i = σ i) ∧ σ' (29 + 2 * d) 2 = a1 ∧ σ' (29 + 2 * d) 3 = nI n ∧ ∀ i, i < n → σ' (29 + 2 * d + 1) i = 0) (fun i ξ => (∀ i, i ≠ 29 + 2 * d + 1 → ξ i = τ i) ∧ ∀ j, j < i → ξ (29 + 2 * d + 1) j = 0) n ?_ ?_ 1000 0 τ (by omega) (by omega) ⟨fun _ _ => rfl, fun j hj => absurd hj (by omega)⟩
  · rintro m ξ ⟨h1, h2⟩
    refine ⟨ξ, ?_, fun i q1 q2 => by rw [h1 i q2, o1 i q1], by rw [h1 _ (by omega)]; exact o2, by rw [h1 _ (by omega)]; exact o3, h2⟩
    show X7_lay_s16 kf d _ (nI n) (nI n) ξ _ = _
    unfold X7_lay_s16
    rw [if_pos (nI_le (Nat.le_refl _) (by omega))]
  · rintro m i ξ hi ⟨h1, h2⟩ k
    show ∃ σ', X7_lay_s16 kf d (X7_lay_b16 kf d m) (nI n) (nI i) ξ _ = _ ∧ _
    unfold X7_lay_s16
    rw [if_neg (nI_ge hi (by omega)), wrN (by omega) (by omega), bd_e, nI_1]
    refine k _ ⟨fun j hj => by rw [up2_o hj]; exact h1 j hj, fun j hj => ?_⟩
    by_cases e : j = i
    · rw [e, up2_ss]
    · rw [up2_oo (Or.inr e)]
      exact h2 j (by omega)
theorem R_lay {μ : IM} {d : Nat} (hd : d < 8) : ∃ μ', X12_row_b55 1000 (nI d) 0 μ = some (0, μ') ∧ (∀ i, i ≠ 12 → μ' i = μ i) ∧ (∀ j, j < 100 → μ' 12 (100 * d + j) = 0) ∧ ∀ j, j < 100 * d ∨ 100 * d + 100 ≤ j → μ' 12 j = μ 12 j := by
  refine loop_i (σ := IM) (fun m i ξ => ∃ μ', X12_row_b55 m (nI d) (nI i) ξ = some (0, μ') ∧ (∀ i, i ≠ 12 → μ' i = μ i) ∧ (∀ j, j < 100 → μ' 12 (100 * d + j) = 0) ∧ ∀ j, j < 100 * d ∨ 100 * d + 100 ≤ j → μ' 12 j = μ 12 j) (fun i ξ => (∀ i, i ≠ 12 → ξ i = μ i) ∧ (∀ j, j < i → ξ 12 (100 * d + j) = 0) ∧ ∀ j, j < 100 * d ∨ 100 * d + 100 ≤ j → ξ 12 j = μ 12 j) 100 ?_ ?_ 1000 0 μ (by omega) (by omega) ⟨fun _ _ => rfl, fun j hj => absurd hj (by omega), fun _ _ => rfl⟩
  · rintro m ξ ⟨h1, h2, h3⟩
    refine ⟨ξ, ?_, h1, h2, h3⟩
    show X12_row_s55 _ (nI d) (nI 100) ξ = _
    unfold X12_row_s55
    rw [if_pos (show (100 : Int32) ≤ nI 100 by decide)]
  · rintro m i ξ hi ⟨h1, h2, h3⟩ k
    show ∃ μ', X12_row_s55 (X12_row_b55 m) (nI d) (nI i) ξ = _ ∧ _
    unfold X12_row_s55
    rw [if_neg (show ¬ (100 : Int32) ≤ nI i from nI_ge (b := 100) hi (by omega)), show (100 : Int32) * nI d = nI (100 * d) from pk_mul 100 d, nI_add, wrN (by omega) (by omega), bd_e, nI_1]
    refine k _ ⟨fun j hj => by rw [up2_o hj]; exact h1 j hj, fun j hj => ?_, fun j hj => by rw [up2_oo (by omega)]; exact h3 j hj⟩
    by_cases e : j = i
    · rw [e, up2_ss]
    · rw [up2_oo (by omega)]
      exact h2 j (by omega)
theorem E_row {σ : IM} {ρ : RM} {kf : KF} {μ : IM} (h : All σ ρ kf μ) (a1 a2 a3 : Int32) : Same3 kf (X11_row kf σ ρ a1 a2 a3) (X12_row μ a1 a2 a3) := by
  unfold X11_row X12_row
  rcases isSh a1 with ⟨d, hd, rfl, q1, q2⟩ | ⟨q1, q2⟩
  · rw [q1, q2, bd1_s, bd1_s, if_neg n10, if_neg n10]
    rcases isSo a2 with ⟨so, hso, rfl, w1, w2⟩ | ⟨w1, w2⟩
    · rw [w1, w2, bd1_s, bd1_s, if_neg n10, if_neg n10]
      by_cases c1 : a3 ≤ 100
      · rw [if_pos c1, if_pos c1]
        by_cases c2 : 0 ≤ a3
        · obtain ⟨n, hn, rfl⟩ := nI_of2 (M := 100) (n := 100) rfl (Int32.not_lt.mpr c2) c1
          obtain ⟨σ', e1, a, b1, b2, b3⟩ := C_lay (σ := σ) (ρ := ρ) (kf := kf) (a1 := nI so) hd hn
          rw [if_pos c2, if_pos c2, ixN hd (by omega), e1, bd2_s, wrN hd (by omega), wrN hd (by omega), wrN hd (by omega)]
          obtain ⟨ν, eν⟩ : ∃ z, z = up2 (up2 (up2 μ 7 d 2) 10 d (nI so)) 11 d (nI n) := ⟨_, rfl⟩
          rw [← eν]
          obtain ⟨μ', e2, m1, m2, m3⟩ := R_lay (μ := ν) hd
          have nu : ∀ i x, (i ≠ 7 ∧ i ≠ 10 ∧ i ≠ 11) ∨ x ≠ d → ν i x = μ i x := fun i x hh => by rw [eν, up2_oo (by omega), up2_oo (by omega), up2_oo (by omega)]
          refine ⟨0, σ', _, μ', rfl, e2, h.sh hd a (fun i hi => upr_o hi) (fun i hi => ?_) (fun x hx hne => ?_) ?_⟩
          · rw [m1 i (by omega)]
            funext x
            exact nu i x (by omega)
          · exact ⟨by rw [m1 7 (by omega), nu 7 x (Or.inr hne)], by rw [m1 8 (by omega), nu 8 x (Or.inr hne)], by rw [m1 9 (by omega), nu 9 x (Or.inr hne)], by rw [m1 10 (by omega), nu 10 x (Or.inr hne)], by rw [m1 11 (by omega), nu 11 x (Or.inr hne)], fun i hi => by rw [m3 _ (by omega), nu 12 _ (by omega)]⟩
          · refine Or.inr (Or.inr ⟨?_, ?_, so, n, hso, hn, b1, ?_, b2, ?_, fun i hi => ?_, fun _ i hi => ?_⟩)
            · rw [m1 7 (by omega), eν, up2_oo (by omega), up2_oo (by omega), up2_ss]
            · rw [upr_i, va_up_self]
            · rw [m1 10 (by omega), eν, up2_oo (by omega), up2_ss]
            · rw [m1 11 (by omega), eν, up2_ss]
            · rw [b3 i hi, m2 i (by omega)]
            · rw [m2 i (by omega)]
              rfl
        · rw [if_neg c2, if_neg c2]
          exact Same3.no h rfl rfl
      · rw [if_neg c1, if_neg c1]
        exact Same3.no h rfl rfl
    · exact Same3.no h (r := -1) (by rw [w1]; rfl) (by rw [w2]; rfl)
  · exact Same3.no h (r := -1) (by rw [q1]; rfl) (by rw [q2]; rfl)
theorem E_put {σ : IM} {ρ : RM} {kf : KF} {μ : IM} (h : All σ ρ kf μ) (a1 a2 a3 : Int32) : Same3 kf (X11_put kf σ ρ a1 a2 a3) (X12_put μ a1 a2 a3) := by
  unfold X11_put X12_put X12_put_b75
  rcases wantR h.2.2.1 a1 with ⟨d, so, sz, hd, rfl, g, q1, q2⟩ | ⟨r, hr0, q1, q2⟩
  · have gg := g
    obtain ⟨g1, g2, g3, g4, g5, g6, g7, g8, g9, gb⟩ := gg
    rw [q1, q2, bd1_s, bd1_s, if_pos (show (-1 : Int32) < 0 by decide), if_pos rfl, if_pos rfl, ixN hd (by omega), szR hd g, g7]
    rcases rng a2 sz (by omega) with ⟨i, hi, rfl, w1, w2⟩ | ⟨w1, w2, -⟩
    · rw [w1, w2, bd1_s, bd1_s, if_neg n10, if_neg n10, rdN hd (by omega), rdN hd (by omega), g6]
      have fin : ∀ v : Int32, (so = 0 → ByteR v) → Same3 kf (wr σ (29 + 2 * d + 1) 100 (nI i) v fun σ7 => some (0, σ7, ρ)) (wr μ 12 800 (100 * nI d + nI i) v fun σ10 => some (0, σ10)) := by
        intro v hv
        rw [wrN (by omega) (by omega), show (100 : Int32) * nI d = nI (100 * d) from pk_mul 100 d, nI_add, wrN (by omega) (by omega)]
        refine ⟨0, _, ρ, _, rfl, rfl, h.sh hd (fun j _ q => up2_o q) (fun _ _ => rfl) (fun j hj => up2_o (by omega)) (fun x hx hne => ⟨by rw [up2_o (by omega)], by rw [up2_o (by omega)], by rw [up2_o (by omega)], by rw [up2_o (by omega)], by rw [up2_o (by omega)], fun j hj => by rw [up2_oo (by omega)]⟩) (Or.inr (Or.inr ⟨by rw [up2_o (by omega)]; exact g1, g2, so, sz, g3, g4, by rw [up2_o (by omega)]; exact g5, by rw [up2_o (by omega)]; exact g6, by rw [up2_o (by omega)]; exact g7, by rw [up2_o (by omega)]; exact g8, fun j hj => ?_, fun h0 j hj => ?_⟩))⟩
        · by_cases e : j = i
          · rw [e, up2_ss, up2_ss]
          · rw [up2_oo (by omega), up2_oo (by omega)]
            exact g9 j hj
        · by_cases e : j = i
          · rw [e, up2_ss]
            exact hv h0
          · rw [up2_oo (by omega)]
            exact gb h0 j hj
      unfold X7_fitted
      rw [g5]
      rcases (show so = 0 ∨ so = 1 ∨ so = 2 by omega) with rfl | rfl | rfl
      · rw [if_pos z00, if_pos z00]
        exact fin _ (fun _ => byte2 a3)
      · rw [if_neg z10, if_pos (show nI 1 = 1 from rfl), if_neg z10, if_pos (show nI 1 = 1 from rfl)]
        exact fin _ (fun q => absurd q (by omega))
      · rw [if_neg (show ¬ nI 2 = 0 by decide), if_neg (show ¬ nI 2 = 1 by decide), if_neg (show ¬ nI 2 = 0 by decide), if_neg (show ¬ nI 2 = 1 by decide)]
        exact fin _ (fun q => absurd q (by omega))
    · rw [w1, w2]
      exact Same3.no h rfl rfl
  · rw [q1, q2, bd1_s, bd1_s, if_neg hr0, if_neg hr0]
    exact Same3.no h rfl rfl
theorem E_cost {σ : IM} {ρ : RM} {kf : KF} {μ : IM} (h : All σ ρ kf μ) (a1 : Int32) : Same0 (X11_cost kf σ ρ a1) (X12_cost μ a1) := by
  unfold X11_cost X12_cost
  rcases wantK h.2.2.1 a1 with ⟨d, q, k, fg, hd, rfl, g, q1, q2⟩ | ⟨r, hr0, q1, q2⟩
  · obtain ⟨g1, g2, g3, g4, g5, g6, g7, g8⟩ := g
    have e : ∀ k, k < 8 → ∀ fg, fg < 10 → Vd_price k (nI fg) = X12_costBy (nI k) (nI fg) ∧ (X12_costBy (nI k) (nI fg)).isSome = true := by decide +kernel
    obtain ⟨e1, e2⟩ := e k g4 fg g5
    rw [q1, q2, bd1_s, bd1_s, if_pos rfl, if_pos rfl, ixN hd (by omega), g3, bd1_s, rdN hd (by omega), rdN hd (by omega), g7, g8]
    unfold V_price
    rw [g6, bd1_s, e1]
    obtain ⟨r, er⟩ := Option.isSome_iff_exists.mp e2
    rw [er]
    exact ⟨r, rfl, rfl⟩
  · rw [q1, q2, bd1_s, bd1_s, if_neg hr0, if_neg hr0]
    exact ⟨r, rfl, rfl⟩
/-- a failure, as a number -/
def tsV (k fg : Nat) : Int32 := if fg = 0 ∨ k = 3 ∨ k = 5 ∨ k = 7 then -15 else if k = 4 then nI (200 + (2 + fg) / 2) else if k = 2 then nI (100 + fg) else nI fg
theorem E_toss {σ : IM} {ρ : RM} {kf : KF} {μ : IM} (h : All σ ρ kf μ) (a1 : Int32) : (∃ d q k fg, d < 8 ∧ a1 = nI d ∧ ρ (29 + 2 * d) 1 = some q ∧ k < 8 ∧ fg < 10 ∧ kf q = some (k, nI fg) ∧ X11_refusalOf kf σ ρ a1 0 = some 0 ∧ X12_toss μ a1 = some (tsV k fg)) ∨ ∃ r, r ≠ 0 ∧ X11_refusalOf kf σ ρ a1 0 = some r ∧ X12_toss μ a1 = some r := by
  unfold X12_toss
  rcases wantK h.2.2.1 a1 with ⟨d, q, k, fg, hd, rfl, g, q1, q2⟩ | ⟨r, hr0, q1, q2⟩
  · obtain ⟨g1, g2, g3, g4, g5, g6, g7, g8⟩ := g
    refine Or.inl ⟨d, q, k, fg, hd, rfl, g3, g4, g5, g6, q1, ?_⟩
    have e : ∀ k, k < 8 → ∀ fg, fg < 10 → (if nI k = 3 then (some (-15)) else (if nI k = 5 then (some (-15)) else (if nI k = 7 then (some (-15)) else (if nI fg = 0 then (some (-15)) else (if nI k = 4 then (bd1 (X12_costBy (nI k) (nI fg)) fun r11 => some (200 + r11)) else (if nI k = 2 then (some (100 + nI fg)) else (some (nI fg)))))))) = some (tsV k fg) := by decide +kernel
    rw [q2, bd1_s, if_pos rfl, rdN hd (by omega), rdN hd (by omega), g7, g8]
    exact e k g4 fg g5
  · refine Or.inr ⟨r, hr0, q1, ?_⟩
    rw [q2, bd1_s, if_neg hr0]
theorem E_element {σ : IM} {ρ : RM} {kf : KF} {μ : IM} (h : All σ ρ kf μ) (a1 a2 : Int32) : (X11_isBelow a1 8 = some 0 ∧ ∃ r μ', X12_element μ a1 a2 = some (r, μ') ∧ μ' 0 19 = 1 ∧ All σ ρ kf μ') ∨ (∃ d, d < 8 ∧ a1 = nI d ∧ X11_isBelow a1 8 = some 1 ∧ (X7_isRow kf σ ρ d = some 0 ∨ (X7_isRow kf σ ρ d = some 1 ∧ X11_isBelow a2 (σ (29 + 2 * d) 3) = some 0)) ∧ ∃ r μ', X12_element μ a1 a2 = some (r, μ') ∧ μ' 0 19 = 2 ∧ All σ ρ kf μ') ∨ ∃ d i, d < 8 ∧ a1 = nI d ∧ a2 = nI i ∧ i < 100 ∧ X11_isBelow a1 8 = some 1 ∧ X7_isRow kf σ ρ d = some 1 ∧ X11_isBelow a2 (σ (29 + 2 * d) 3) = some 1 ∧ ∃ μ', X12_element μ a1 a2 = some ((σ (29 + 2 * d + 1) i).toInt64, μ') ∧ μ' 0 19 = 0 ∧ All σ ρ kf μ' := by
  have fin : ∀ t : Int32, All σ ρ kf (up2 μ 0 19 t) := fun t => h.fr FC.rf ⟨up2_o (by omega), up2_o (by omega), fun i hi => up2_o (by omega), up2_oo (by omega)⟩
  have no : ∀ t : Int32, t ≠ 0 → X12_element_b43 a1 a2 t μ = some (0, up2 μ 0 19 t) := fun t ht => by
    unfold X12_element_b43
    rw [bd_e, up2_ss, if_neg ht]
  unfold X12_element X12_element_b38
  rcases isSh a1 with ⟨d, hd, rfl, q1, q2⟩ | ⟨q1, q2⟩
  · rw [q2, bd1_s, if_neg n10, rdN hd (by omega)]
    have nr : μ 7 d ≠ 2 → σ (29 + 2 * d) 2 = -1 → (∃ d_1, d_1 < 8 ∧ nI d = nI d_1 ∧ X11_isBelow (nI d) 8 = some 1 ∧ (X7_isRow kf σ ρ d_1 = some 0 ∨ (X7_isRow kf σ ρ d_1 = some 1 ∧ X11_isBelow a2 (σ (29 + 2 * d_1) 3) = some 0)) ∧ ∃ r μ', (if μ 7 d = 2 then (rd (μ 11) 8 (nI d) fun v5 => bd1 (X12_isIn a2 0 (v5 - 1)) fun r6 => if r6 = 0 then (X12_element_b43 (nI d) a2 2 μ) else (X12_element_b43 (nI d) a2 0 μ)) else (X12_element_b43 (nI d) a2 2 μ)) = some (r, μ') ∧ μ' 0 19 = 2 ∧ All σ ρ kf μ') := fun c1 c2 => by
      refine ⟨d, hd, rfl, q1, Or.inl ?_, 0, up2 μ 0 19 2, ?_, up2_ss, fin 2⟩
      · unfold X7_isRow
        rw [c2, if_pos rfl]
      · rw [if_neg c1]
        exact no 2 (by decide)
    rcases (h.2.2.1 d hd).cases with g | ⟨q, k, fg, g⟩ | ⟨so, sz, g⟩
    · exact Or.inr (Or.inl (nr (by rw [g.1]; decide) g.2.1))
    · exact Or.inr (Or.inl (nr (by rw [g.1]; decide) g.2.1))
    · have gg := g
      obtain ⟨g1, g2, g3, g4, g5, g6, g7, g8, g9, gb⟩ := gg
      have ir : X7_isRow kf σ ρ d = some 1 := by
        unfold X7_isRow
        rw [g5, if_neg (nI_m1 (by omega))]
      rw [g1, if_pos rfl, szR hd g]
      rcases rng a2 sz (by omega) with ⟨i, hi, rfl, w1, w2⟩ | ⟨w1, w2, -⟩
      · refine Or.inr (Or.inr ⟨d, i, hd, rfl, rfl, by omega, q1, ir, by rw [g7]; exact w1, up2 μ 0 19 0, ?_, up2_ss, fin 0⟩)
        unfold X12_element_b43
        rw [w2, bd1_s, if_neg n10, bd_e, up2_ss, if_pos rfl, up2_o (by omega), elR hd (by omega), g9 i hi]
      · refine Or.inr (Or.inl ⟨d, hd, rfl, q1, Or.inr ⟨ir, by rw [g7]; exact w1⟩, 0, up2 μ 0 19 2, ?_, up2_ss, fin 2⟩)
        rw [w2, bd1_s, if_pos rfl]
        exact no 2 (by decide)
  · refine Or.inl ⟨q1, 0, up2 μ 0 19 1, ?_, up2_ss, fin 1⟩
    rw [q2, bd1_s, if_pos rfl]
    exact no 1 (by decide)
