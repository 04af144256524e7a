/-! rows that tell; rallies -/
theorem ShR.fr {σ σ' : IM} {ρ ρ' : RM} {μ μ' : IM} {d so sz : Nat} (hd : d < 8) (h : ShR σ ρ μ d so sz) (a : FC σ ρ σ' ρ') (b : FR μ μ') : ShR σ' ρ' μ' d so sz := by
  have e1 := a.2.1 (29 + 2 * d) (by omega) (by omega)
  have e2 := a.2.1 (29 + 2 * d + 1) (by omega) (by omega)
  have e3 := a.2.2.2 (29 + 2 * d) (by omega)
  unfold ShR at *
  rw [e1, e2, e3, b.2.2.1 7 (by omega), b.2.2.1 10 (by omega), b.2.2.1 11 (by omega), b.2.2.1 12 (by omega)]
  exact h
/-- an element, read by both -/
theorem elC {β : Type} {σ : IM} {ρ : RM} {μ : IM} {d so sz : Nat} (h : ShR σ ρ μ d so sz) {i : Nat} (hi : i < sz) {k : Int32 → Option β} : rd (σ (29 + 2 * d + 1)) 100 (nI i) k = k (μ 12 (100 * d + i)) := by
  have := h.2.2.2.1
  rw [rdN (by omega) (by omega), h.2.2.2.2.2.2.2.2.1 i hi]
theorem elR {β : Type} {μ : IM} {d i : Nat} (hd : d < 8) (hi : i < 100) {k : Int32 → Option β} : rd (μ 12) 800 (100 * nI d + nI i) k = k (μ 12 (100 * d + i)) := by
  rw [show (100 : Int32) * nI d = nI (100 * d) from pk_mul 100 d, nI_add, rdN (by omega) (by omega)]
theorem szR {β : Type} {σ : IM} {ρ : RM} {μ : IM} {d so sz : Nat} (hd : d < 8) (h : ShR σ ρ μ d so sz) {k : Int32 → Option β} : rd (μ 11) 8 (nI d) k = k (nI sz) := by
  rw [rdN (by omega) (by omega), h.2.2.2.2.2.2.2.1]
def lsV (so : Nat) : Int32 := if so = 0 then -128 else if so = 1 then -32768 else -2147483648
theorem C_allows {σ : IM} {ρ : RM} {kf : KF} {μ : IM} {d so sz : Nat} (h : ShR σ ρ μ d so sz) {i : Nat} (hi : i < sz) (v : Int32) : X7_allows kf σ ρ d (nI i) v = some (if μ 12 (100 * d + i) = lsV so then 1 else if μ 12 (100 * d + i) = v then 1 else 0) := by
  have hso := h.2.2.1
  have el : X7_least kf σ ρ d = some (lsV so) := by
    unfold X7_least lsV
    rw [h.2.2.2.2.1]
    rcases (show so = 0 ∨ so = 1 ∨ so = 2 by omega) with rfl | rfl | rfl <;> rfl
  unfold X7_allows X7_allows_b23
  rw [elC h hi, elC h hi, el, bd1_s]
  by_cases c1 : μ 12 (100 * d + i) = v
  · rw [if_pos c1, if_pos c1]
    split <;> rfl
  · rw [if_neg c1, if_neg c1]
    split <;> rfl
theorem R_skip {σ : IM} {ρ : RM} {μ : IM} {d so sz : Nat} (hd : d < 8) (h : ShR σ ρ μ d so sz) {i : Nat} (hi : i < sz) : X12_isSkipped μ (nI d) (nI i) = some (if μ 12 (100 * d + i) = lsV so then 1 else 0) := by
  have hso := h.2.2.1
  have hsz := h.2.2.2.1
  have el : X12_leastOf (nI so) = some (lsV so) := by
    rcases (show so = 0 ∨ so = 1 ∨ so = 2 by omega) with rfl | rfl | rfl <;> rfl
  unfold X12_isSkipped
  rw [elR hd (by omega), rdN (by omega) (by omega), h.2.2.2.2.2.1, el, bd1_s]
  split <;> rfl
theorem rem2 {n : Nat} (h : n < 1000) : rem32 (nI n) 2 = nI (n % 2) := nI_rem (d := 2) (by omega) (by omega) (by omega)
theorem div2 {n : Nat} (h : n < 1000) : nI n / 2 = nI (n / 2) := nI_div (d := 2) (by omega) (by omega) (by omega)
/-- hits are told -/
theorem wantH {σ : IM} {ρ : RM} {kf : KF} {μ : IM} (h : ∀ d, d < 8 → ShE σ ρ kf μ d) (x : Int32) : (∃ d so sz, d < 8 ∧ x = nI d ∧ ShR σ ρ μ d so sz ∧ sz % 2 = 0 ∧ X11_refusalOfHits kf σ ρ x = some 0 ∧ X12_wrongRow μ x (-1) = some 0) ∨ (∃ d so sz, d < 8 ∧ x = nI d ∧ ShR σ ρ μ d so sz ∧ sz % 2 = 1 ∧ X11_refusalOfHits kf σ ρ x = some (-13) ∧ X12_wrongRow μ x (-1) = some 0) ∨ ∃ r, r ≠ 0 ∧ X11_refusalOfHits kf σ ρ x = some r ∧ X12_wrongRow μ x (-1) = some r := by
  unfold X11_refusalOfHits
  rcases wantR h x with ⟨d, so, sz, hd, rfl, g, q1, q2⟩ | ⟨r, hr, q1, q2⟩
  · have hsz := g.2.2.2.1
    have q3 : X12_wrongRow μ (nI d) (-1) = some 0 := by rw [q2, if_pos (by decide)]
    have g3 := g.2.2.2.2.2.2.1
    have e := rem2 (n := sz) (by omega)
    rcases (show sz % 2 = 0 ∨ sz % 2 = 1 by omega) with p | p
    · refine Or.inl ⟨d, so, sz, hd, rfl, g, p, ?_, q3⟩
      rw [q1, bd1_s, if_pos rfl, ixN (by omega) (by omega), g3, e, p]
      rfl
    · refine Or.inr (Or.inl ⟨d, so, sz, hd, rfl, g, p, ?_, q3⟩)
      rw [q1, bd1_s, if_pos rfl, ixN (by omega) (by omega), g3, e, p]
      rfl
  · refine Or.inr (Or.inr ⟨r, hr, ?_, q2 (-1)⟩)
    rw [q1, bd1_s, if_neg hr]
theorem E_forged {σ : IM} {ρ : RM} {kf : KF} {μ : IM} (h : All σ ρ kf μ) (a1 : Int32) : Same3 kf (X11_forged kf σ ρ a1) (X12_forged μ a1) := by
  unfold X11_forged X12_forged
  obtain ⟨⟨f, hf⟩, hr⟩ := h
  have h0 : All σ ρ kf μ := ⟨⟨f, hf⟩, hr⟩
  have hI := hf.1
  rcases wantH hr.2.1 a1 with ⟨d, so, sz, hd, rfl, g, p, q1, q2⟩ | ⟨d, so, sz, hd, rfl, g, p, q1, q2⟩ | ⟨r, hr0, q1, q2⟩
  · have hsz := g.2.2.2.1
    obtain ⟨τ1, ω1, b1, m1, g1, -⟩ := M_become hf
    obtain ⟨ν1, c1, m2, g2, -⟩ := N_copies hf.2.2.2.2
    unfold X12_forged_b26
    rw [q1, q2, bd1_s, bd1_s, if_pos rfl, if_pos rfl, ixN (by omega) (by omega), b1, bd2_s, szR hd g, rem2 (by omega), if_neg (show ¬ nI (sz % 2) = 1 by rw [p]; decide), if_pos rfl, c1, bd1_s]
    refine loop_i (σ := Nat × (Nat → Nat) × IM × IM) (fun n i z => Same3 kf (X11_forged_b36 kf n d (nI z.1) (nI i) z.2.2.1 ω1) (X12_forged_b48 n (nI d) (nI z.1) (nI (2 * i)) z.2.2.2)) (fun i z => (z.1 = 0 ∨ z.1 = 1) ∧ MC z.2.2.1 ω1 kf z.2.1 ∧ RA (z.2.2.2 2) z.2.1 ∧ Inv z.2.1 ∧ z.2.1 0 = f 0 ∧ FC σ ρ z.2.2.1 ω1 ∧ FR μ z.2.2.2) (sz / 2) ?_ ?_ 1000 0 (0, f, τ1, ν1) (by omega) (by omega) ⟨Or.inl rfl, m1, m2, hI, rfl, g1, g2⟩
    · rintro n ⟨o, k, τ, ν⟩ ⟨ho, m1, m2, hk, hk0, fc, fr⟩
      dsimp only at ho m1 m2 hk hk0 fc fr
      have gg := g.fr hd fc fr
      refine ⟨-4, τ, ω1, ν, ?_, ?_, h0.fr fc fr⟩
      · show X11_forged_s36 kf _ d (nI o) (nI (sz / 2)) τ ω1 = _
        unfold X11_forged_s36
        rw [gg.2.2.2.2.2.2.1, div2 (by omega), if_pos (nI_le (by omega) (by omega))]
      · show X12_forged_s48 _ (nI d) (nI o) (nI (2 * (sz / 2))) ν = _
        unfold X12_forged_s48
        rw [szR hd gg, if_pos (nI_le (by omega) (by omega))]
    · rintro n i ⟨o, k, τ, ν⟩ hi ⟨ho, m1, m2, hk, hk0, fc, fr⟩ kk
      dsimp only at ho m1 m2 hk hk0 fc fr
      have gg := g.fr hd fc fr
      have hn : Now τ ω1 kf ν f := hf.fr fc fr
      have fin := h0.fr fc fr
      have ev : Same3 kf (some (nI i, τ, ω1)) (some (nI (2 * i) / 2, ν)) := ⟨nI i, τ, ω1, ν, rfl, by rw [div2 (by omega), show 2 * i / 2 = i by omega], fin⟩
      show Same3 kf (X11_forged_s36 kf (X11_forged_b36 kf n) d (nI o) (nI i) τ ω1) (X12_forged_s48 (X12_forged_b48 n) (nI d) (nI o) (nI (2 * i)) ν)
      unfold X11_forged_s36 X12_forged_s48 X12_forged_b104
      rw [gg.2.2.2.2.2.2.1, div2 (by omega), if_neg (nI_ge (by omega) (by omega)), szR hd gg, if_neg (nI_ge (by omega) (by omega)), elR hd (by omega), show (100 : Int32) * nI d + nI (2 * i) + 1 = 100 * nI d + nI (2 * i + 1) by rw [Int32.add_assoc, nI_1], elR hd (by omega)]
      rcases ho with rfl | rfl
      · rw [if_pos z00, if_pos z00, show (2 : Int32) * nI i = nI (2 * i) from pk_mul 2 i, nI_1, elC gg (by omega), elC gg (by omega), elC gg (by omega), elC gg (by omega)]
        rcases isHi hn (ν 12 (100 * d + 2 * i)) (ν 12 (100 * d + (2 * i + 1))) with ⟨s, c, hs, hc, e1, e2, w1, w2⟩ | ⟨w1, w2⟩
        · rw [w1, w2, bd1_s, bd1_s, if_neg n10, if_neg n10, e1, e2]
          obtain ⟨τ2, b2, m3, g3, -⟩ := M_strike (k := s) (x := c) m1 hk (by omega) hc
          obtain ⟨ν2, c2, m4, g4, -⟩ := N_hits (k := s) (x := c) m2 hk (by omega) hc
          rw [b2, bd3_s, c2, bd2_s, nI_1, bd_e, bd_e, show nI (2 * i) + 2 = nI (2 * (i + 1)) from nI_add (2 * i) 2]
          exact kk (ptB k s c, hitN k s c, τ2, ν2) ⟨ptB_or k s c, m3, m4, hitN_Inv hk (by omega) hc, (f1_0 hk).trans hk0, fc.tr g3, fr.tr g4⟩
        · rw [w1, w2, bd1_s, bd1_s, if_pos rfl, if_pos rfl]
          exact ev
      · rw [if_neg z10, if_neg z10]
        exact ev
  · have hsz := g.2.2.2.1
    unfold X12_forged_b26
    rw [q1, q2, bd1_s, bd1_s, if_neg (by decide), if_pos rfl, szR hd g, rem2 (by omega), if_pos (show nI (sz % 2) = 1 by rw [p]; rfl), if_neg (by decide)]
    exact Same3.no h0 rfl rfl
  · unfold X12_forged_b26
    rw [q1, q2, bd1_s, bd1_s, if_neg hr0, if_neg hr0, if_neg hr0]
    exact Same3.no h0 rfl rfl
theorem E_judge {σ : IM} {ρ : RM} {kf : KF} {μ : IM} (h : All σ ρ kf μ) (a1 : Int32) : Same3 kf (X11_judge kf σ ρ a1) (X12_judge μ a1) := by
  unfold X11_judge X12_judge X12_judge_b23
  obtain ⟨⟨f, hf⟩, hr⟩ := h
  have h0 : All σ ρ kf μ := ⟨⟨f, hf⟩, hr⟩
  have hI := hf.1
  have hN := hI.1
  rcases wantR hr.2.1 a1 with ⟨d, so, sz, hd, rfl, g, q1, q2⟩ | ⟨r, hr0, q1, q2⟩
  · have hsz := g.2.2.2.1
    rw [q1, q2 (-1), bd1_s, bd1_s, if_pos (show ((-1 : Int32) < 0) by decide), if_pos rfl, if_pos rfl, rd42_0, hf.2.2.1.known, hf.2.2.2.2.1 0 (by omega) (by omega)]
    by_cases z : f 0 = 0
    · refine Same3.no h0 (r := -3) ?_ ?_
      · rw [z]
        rfl
      · rw [z]
        rfl
    · have hnz : ¬ nI (f 0) = 0 := nI_ne0 (by omega) (by omega)
      obtain ⟨τ1, ω1, b1, m1, g1, -⟩ := M_become hf
      obtain ⟨ν1, c1, m2, g2, -⟩ := N_copies hf.2.2.2.2
      rw [if_neg hnz, if_neg hnz, ixN (by omega) (by omega), b1, bd2_s, if_pos rfl, c1, bd1_s]
      have key := loop_i (σ := (Nat → Nat) × IM × IM) (fun n i z => ∀ τ', (∃ pre, X11_judge_b47 kf (n + 1) d (nI i) pre ω1 = (if nI sz ≤ nI i then some (-4, pre, ω1) else X11_judge_b77 kf (X11_judge_b47 kf n) d (nI i) τ' ω1) ∧ FC σ ρ pre ω1) → τ' = z.2.1 → Same3 kf (if nI sz ≤ nI i then some (-4, z.2.1, ω1) else X11_judge_b77 kf (X11_judge_b47 kf n) d (nI i) z.2.1 ω1) (X12_judge_b42 (n + 1) (nI d) (nI i) z.2.2)) (fun i z => MC z.2.1 ω1 kf z.1 ∧ RA (z.2.2 2) z.1 ∧ Inv z.1 ∧ z.1 0 = f 0 ∧ FC σ ρ z.2.1 ω1 ∧ FR μ z.2.2) sz ?_ ?_ 999 0 (f, τ1, ν1) (by omega) (by omega) ⟨m1, m2, hI, rfl, g1, g2⟩ τ1 ⟨τ1, ?_, g1⟩ rfl
      · have gg := g.fr hd g1 g2
        have e : X11_judge_b47 kf 1000 d 0 τ1 ω1 = (if nI sz ≤ nI 0 then some (-4, τ1, ω1) else X11_judge_b77 kf (X11_judge_b47 kf 999) d (nI 0) τ1 ω1) := by
          show X11_judge_s47 kf (X11_judge_b47 kf 999) d (nI 0) τ1 ω1 = _
          unfold X11_judge_s47
          rw [gg.2.2.2.2.2.2.1, if_pos (show nI 0 ≤ (0 : Int32) by decide)]
        rw [e]
        exact key
      · rintro n ⟨k, τ, ν⟩ ⟨m1, m2, hk, hk0, fc, fr⟩ τ' - -
        dsimp only at m1 m2 hk hk0 fc fr
        have gg := g.fr hd fc fr
        refine ⟨-4, τ, ω1, ν, ?_, ?_, h0.fr fc fr⟩
        · rw [if_pos (nI_le (Nat.le_refl _) (by omega))]
        · show X12_judge_s42 _ (nI d) (nI sz) ν = _
          unfold X12_judge_s42
          rw [szR hd gg, if_pos (nI_le (Nat.le_refl _) (by omega))]
      · rintro n i ⟨k, τ, ν⟩ hi ⟨m1, m2, hk, hk0, fc, fr⟩ kk τ' - -
        dsimp only at m1 m2 hk hk0 fc fr
        have gg := g.fr hd fc fr
        have fin := h0.fr fc fr
        show Same3 kf (if nI sz ≤ nI i then some (-4, τ, ω1) else X11_judge_b77 kf (X11_judge_b47 kf (n + 1)) d (nI i) τ ω1) (X12_judge_s42 (X12_judge_b42 (n + 1)) (nI d) (nI i) ν)
        unfold X11_judge_b77 X12_judge_s42
        have p0 : τ (10 + 7) 0 = nI (k 38) := m1.1.points (s := 0) (by omega)
        have p1 : τ (10 + 7) 1 = nI (k 41) := m1.1.points (s := 1) (by omega)
        rw [if_neg (nI_ge hi (by omega)), rd2_0, rd2_1, C_allows gg hi, bd1_s, szR hd gg, if_neg (nI_ge hi (by omega)), R_skip hd gg hi, bd1_s, elR hd (by omega), show X12_ofSide 0 2 = some (nI 38) from rfl, bd1_s, rdN (by omega) (by omega), show X12_ofSide 1 2 = some (nI 41) from rfl, bd1_s, rdN (by omega) (by omega), m2.1 38 (by omega) (by omega), m2.1 41 (by omega) (by omega), p0, p1, nI_1, bd_e]
        have e8 := enN_lt i
        obtain ⟨τ2, b2, m3, g3, -⟩ := M_strike (k := 0) (x := enN i) m1 hk (by omega) e8
        obtain ⟨ν2, c2, m4, g4, -⟩ := N_hits (k := 0) (x := enN i) m2 hk (by omega) e8
        have fc2 := fc.tr g3
        have fr2 := fr.tr g4
        have gg2 := g.fr hd fc2 fr2
        have nx := kk (hitN k 0 (enN i), τ2, ν2) ⟨m3, m4, hitN_Inv hk (by omega) e8, (f1_0 hk).trans hk0, fc2, fr2⟩ τ2
        have go : Same3 kf (X11_judge_b47 kf (n + 1) d (nI (i + 1)) τ ω1) (X12_judge_b98 (X12_judge_b42 (n + 1)) (nI d) (nI i) ν) := by
          have eC : X11_judge_b47 kf (n + 1) d (nI (i + 1)) τ ω1 = (if nI sz ≤ nI (i + 1) then some (-4, τ, ω1) else X11_judge_b77 kf (X11_judge_b47 kf n) d (nI (i + 1)) τ2 ω1) := by
            show X11_judge_s47 kf (X11_judge_b47 kf n) d (nI (i + 1)) τ ω1 = _
            unfold X11_judge_s47
            rw [gg.2.2.2.2.2.2.1, if_neg (nI_nle (n := i + 1) (by omega) (by omega)), nI_pred, C_end i (by omega), bd1_s, show X1_strike kf τ ω1 10 0 (nI (enN i)) = _ from b2, bd3_s]
          have eR : X12_judge_b98 (X12_judge_b42 (n + 1)) (nI d) (nI i) ν = X12_judge_b42 (n + 1) (nI d) (nI (i + 1)) ν2 := by
            unfold X12_judge_b98 X12_judge_b116
            rw [rem2 (by omega)]
            rcases (show i % 2 = 0 ∨ i % 2 = 1 by omega) with q | q
            · have : enN i = 0 := by
                unfold enN
                rw [if_pos q]
              rw [this] at c2
              rw [q, if_pos z00, show X12_hits ν 2 0 0 = _ from c2, bd2_s, bd_e, nI_1]
            · have : enN i = 8 := by
                unfold enN
                rw [if_neg (by omega)]
              rw [this] at c2
              rw [q, if_neg z10, show X12_hits ν 2 0 8 = _ from c2, bd2_s, bd_e, nI_1]
          rw [eC, eR]
          have nx2 := nx ⟨τ, eC, fc⟩ rfl
          by_cases c : nI sz ≤ nI (i + 1)
          · rw [if_pos c]
            dsimp only at nx2
            rw [if_pos c] at nx2
            obtain ⟨r, σa, ρa, μa, x1, x2, x3⟩ := nx2
            cases x1
            have y2 : X12_judge_b42 (n + 1) (nI d) (nI (i + 1)) ν2 = some (-4, ν2) := by
              show X12_judge_s42 _ (nI d) (nI (i + 1)) ν2 = _
              unfold X12_judge_s42
              rw [szR hd gg2, if_pos c]
            exact ⟨-4, τ, ω1, ν2, rfl, y2, h0.fr fc fr2⟩
          · rw [if_neg c]
            dsimp only at nx2
            rw [if_neg c] at nx2
            exact nx2
        by_cases s1 : ν 12 (100 * d + i) = lsV so
        · rw [if_pos s1, if_pos s1, if_neg n10, if_neg n10]
          exact go
        · rw [if_neg s1, if_neg s1, if_pos rfl]
          by_cases s2 : ν 12 (100 * d + i) = nI (k 38) + nI (k 41)
          · rw [if_pos s2, if_pos s2, if_neg n10]
            exact go
          · rw [if_neg s2, if_neg s2, if_pos rfl]
            exact ⟨_, τ, ω1, ν, rfl, rfl, fin⟩
      · have gg := g.fr hd g1 g2
        show X11_judge_s47 kf (X11_judge_b47 kf 999) d (nI 0) τ1 ω1 = _
        unfold X11_judge_s47
        rw [gg.2.2.2.2.2.2.1, if_pos (show nI 0 ≤ (0 : Int32) by decide)]
  · rw [q1, q2 (-1), bd1_s, bd1_s, if_neg hr0, if_neg hr0, if_neg hr0]
    exact Same3.no h0 rfl rfl
