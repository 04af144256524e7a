/-! which stroke it was; what habit -/
/-- a row says all of it, or not -/
def SayA (μ : IM) (d so : Nat) (v : Nat → Nat) (n : Nat) : Prop := ∀ i, i < n → μ 12 (100 * d + i) = lsV so ∨ μ 12 (100 * d + i) = nI (v i)
theorem wantC {σ : IM} {ρ : RM} {kf : KF} {μ : IM} (h : ∀ d, d < 8 → ShE σ ρ kf μ d) (x : Int32) : (∃ d so sz, d < 8 ∧ x = nI d ∧ ShR σ ρ μ d so sz ∧ sz ≤ 9 ∧ X11_refusalOfCells kf σ ρ x = some 0 ∧ X12_wrongRow μ x (-1) = some 0) ∨ (∃ d so sz, d < 8 ∧ x = nI d ∧ ShR σ ρ μ d so sz ∧ 9 < sz ∧ X11_refusalOfCells kf σ ρ x = some (-13) ∧ X12_wrongRow μ x (-1) = some 0) ∨ ∃ r, r ≠ 0 ∧ X11_refusalOfCells kf σ ρ x = some r ∧ X12_wrongRow μ x (-1) = some r := by
  unfold X11_refusalOfCells
  rcases wantR h x with ⟨d, so, sz, hd, rfl, g, q1, q2⟩ | ⟨r, hr, q1, q2⟩
  · have hsz := g.2.2.2.1
    have q3 : X12_wrongRow μ (nI d) (-1) = some 0 := by rw [q2, if_pos (by decide)]
    have g3 := g.2.2.2.2.2.2.1
    by_cases c : sz ≤ 9
    · refine Or.inl ⟨d, so, sz, hd, rfl, g, c, ?_, q3⟩
      rw [q1, bd1_s, if_pos rfl, ixN (by omega) (by omega), g3, if_pos (show nI sz ≤ 9 from nI_le (b := 9) c (by omega))]
    · refine Or.inr (Or.inl ⟨d, so, sz, hd, rfl, g, by omega, ?_, q3⟩)
      rw [q1, bd1_s, if_pos rfl, ixN (by omega) (by omega), g3, if_neg (show ¬ nI sz ≤ 9 from nI_ge (a := 9) (by omega) (by omega))]
  · refine Or.inr (Or.inr ⟨r, hr, ?_, q2 (-1)⟩)
    rw [q1, bd1_s, if_neg hr]
theorem allowsB {σ : IM} {ρ : RM} {kf : KF} {μ : IM} {d so sz : Nat} (h : ShR σ ρ μ d so sz) {i : Nat} (hi : i < sz) (v : Nat) : (X7_allows kf σ ρ d (nI i) (nI v) = some 1 ∧ (μ 12 (100 * d + i) = lsV so ∨ μ 12 (100 * d + i) = nI v)) ∨ (X7_allows kf σ ρ d (nI i) (nI v) = some 0 ∧ ¬ (μ 12 (100 * d + i) = lsV so ∨ μ 12 (100 * d + i) = nI v)) := by
  rw [C_allows h hi]
  by_cases c1 : μ 12 (100 * d + i) = lsV so
  · exact Or.inl ⟨by rw [if_pos c1], Or.inl c1⟩
  · by_cases c2 : μ 12 (100 * d + i) = nI v
    · exact Or.inl ⟨by rw [if_neg c1, if_pos c2], Or.inr c2⟩
    · exact Or.inr ⟨by rw [if_neg c1, if_neg c2], fun q => q.elim c1 c2⟩
theorem SayA.up {μ : IM} {d so : Nat} {v : Nat → Nat} {i : Nat} (h : SayA μ d so v i) (hi : μ 12 (100 * d + i) = lsV so ∨ μ 12 (100 * d + i) = nI (v i)) : SayA μ d so v (i + 1) := fun j hj => by
  by_cases e : j = i
  · rw [e]
    exact hi
  · exact h j (by omega)
theorem C_tellsFalls {σ : IM} {ρ : RM} {kf : KF} {μ : IM} {d so sz q k fg dr : Nat} (h : ShR σ ρ μ d so sz) (h9 : sz ≤ 9) (hq : kf q = some (k, nI fg)) (hk : k < 8) (hfg : fg < 10) (hdr : dr < 3) : (X11_tellsFalls kf σ ρ d q (nI dr - 1) = some 1 ∧ SayA μ d so (fun i => landN k dr i) sz) ∨ (X11_tellsFalls kf σ ρ d q (nI dr - 1) = some 0 ∧ ¬ SayA μ d so (fun i => landN k dr i) sz) := by
  unfold X11_tellsFalls
  refine loop_i (σ := Unit) (fun n i _ => (X11_tellsFalls_b2 kf σ ρ d q n (nI dr - 1) (nI i) = some 1 ∧ SayA μ d so (fun i => landN k dr i) sz) ∨ (X11_tellsFalls_b2 kf σ ρ d q n (nI dr - 1) (nI i) = some 0 ∧ ¬ SayA μ d so (fun i => landN k dr i) sz)) (fun i _ => SayA μ d so (fun i => landN k dr i) i) sz ?_ ?_ 1000 0 () (by omega) (by omega) (fun j hj => absurd hj (by omega))
  · intro n _ hs
    refine Or.inl ⟨?_, hs⟩
    show X11_tellsFalls_s2 kf σ ρ d q _ (nI dr - 1) (nI sz) = _
    unfold X11_tellsFalls_s2
    rw [h.2.2.2.2.2.2.1, if_pos (nI_le (Nat.le_refl _) (by omega))]
  · intro n i _ hi hs kk
    show (X11_tellsFalls_s2 kf σ ρ d q (X11_tellsFalls_b2 kf σ ρ d q n) (nI dr - 1) (nI i) = some 1 ∧ _) ∨ (X11_tellsFalls_s2 kf σ ρ d q (X11_tellsFalls_b2 kf σ ρ d q n) (nI dr - 1) (nI i) = some 0 ∧ _)
    unfold X11_tellsFalls_s2
    rw [h.2.2.2.2.2.2.1, if_neg (nI_ge hi (by omega)), V_land hq hk hfg (by omega) hdr, bd1_s]
    rcases allowsB (kf := kf) h hi (landN k dr i) with ⟨e, y⟩ | ⟨e, y⟩
    · rw [e, bd1_s, if_neg n10, bd_e, nI_1]
      exact kk () (hs.up y)
    · rw [e, bd1_s, if_pos rfl]
      exact Or.inr ⟨rfl, fun w => y (w i hi)⟩
/-- the same, by the reference -/
theorem R_tells {σ : IM} {ρ : RM} {μ : IM} {d so sz k : Nat} {g : Nat → Nat} (hd : d < 8) (h : ShR σ ρ μ d so sz) (h9 : sz ≤ 9) (hA : RA (μ 2) g) (hk : k < 8) (hkd : g (4 + 2 * k) < 8) (hdr : g 3 < 3) {K : Int32 → Int32 → Int32 → Int32 → Int32 → IM → Option (Int32 × IM)} {x3 x5 x6 : Int32} : ∃ b : Nat, X12_whatIs_b122 K 1000 (nI d) (nI k) x3 x5 x6 1 0 μ = (if b = 0 then X12_whatIs_b199 K (nI d) (nI k) x3 x6 0 x5 μ else X12_whatIs_b199 K (nI d) (nI k) x3 x6 (1 <<< (x6 &&& 31)) x5 μ) ∧ (b = 0 ↔ ¬ SayA μ d so (fun i => landN (g (4 + 2 * k)) (g 3) i) sz) := by
  refine loop_i (σ := Nat) (fun n i a => ∃ b : Nat, X12_whatIs_b122 K n (nI d) (nI k) x3 x5 x6 (nI a) (nI i) μ = (if b = 0 then X12_whatIs_b199 K (nI d) (nI k) x3 x6 0 x5 μ else X12_whatIs_b199 K (nI d) (nI k) x3 x6 (1 <<< (x6 &&& 31)) x5 μ) ∧ (b = 0 ↔ ¬ SayA μ d so (fun i => landN (g (4 + 2 * k)) (g 3) i) sz)) (fun i a => a ≤ 1 ∧ (a = 0 ↔ ¬ SayA μ d so (fun i => landN (g (4 + 2 * k)) (g 3) i) i)) sz ?_ ?_ 1000 0 1 (by omega) (by omega) ⟨Nat.le_refl 1, ⟨fun q => absurd q (by omega), fun q => absurd (fun j hj => absurd hj (by omega)) q⟩⟩
  · rintro n a ⟨ha, hs⟩
    refine ⟨a, ?_, hs⟩
    show X12_whatIs_s122 K _ (nI d) (nI k) x3 x5 x6 (nI a) (nI sz) μ = _
    unfold X12_whatIs_s122
    rw [szR hd h, if_pos (nI_le (Nat.le_refl _) (by omega))]
    rcases (show a = 0 ∨ a = 1 by omega) with rfl | rfl
    · rw [if_pos z00, if_pos rfl]
    · rw [if_neg z10, if_neg (by omega)]
  · rintro n i a hi ⟨ha, hs⟩ kk
    show ∃ b : Nat, X12_whatIs_s122 K (X12_whatIs_b122 K n) (nI d) (nI k) x3 x5 x6 (nI a) (nI i) μ = _ ∧ _
    unfold X12_whatIs_s122 X12_whatIs_b170 X12_whatIs_b175
    have eL : faN g k i = landN (g (4 + 2 * k)) (g 3) i := rfl
    rw [szR hd h, if_neg (nI_ge hi (by omega)), R_skip hd h hi, bd1_s, elR hd (by omega), R_fallsIn hA hk hkd hdr (by omega), bd1_s, eL]
    simp only [bd_e, nI_1]
    have a0 : nI a &&& 0 = nI 0 := Int32.and_zero
    have a1 : nI a &&& 1 = nI a := by
      rcases (show a = 0 ∨ a = 1 by omega) with rfl | rfl <;> rfl
    have yes : (μ 12 (100 * d + i) = lsV so ∨ μ 12 (100 * d + i) = nI (landN (g (4 + 2 * k)) (g 3) i)) → ∃ b : Nat, X12_whatIs_b122 K n (nI d) (nI k) x3 x5 x6 (nI a) (nI (i + 1)) μ = (if b = 0 then X12_whatIs_b199 K (nI d) (nI k) x3 x6 0 x5 μ else X12_whatIs_b199 K (nI d) (nI k) x3 x6 (1 <<< (x6 &&& 31)) x5 μ) ∧ (b = 0 ↔ ¬ SayA μ d so (fun i => landN (g (4 + 2 * k)) (g 3) i) sz) := fun y =>
      kk a ⟨ha, hs.trans ⟨fun q w => q (fun j hj => w j (by omega)), fun q w => q (w.up y)⟩⟩
    by_cases s1 : μ 12 (100 * d + i) = lsV so
    · rw [if_pos s1, if_neg n10, a1]
      exact yes (Or.inl s1)
    · rw [if_neg s1, if_pos rfl]
      by_cases s2 : μ 12 (100 * d + i) = nI (landN (g (4 + 2 * k)) (g 3) i)
      · rw [if_pos s2, a1]
        exact yes (Or.inr s2)
      · rw [if_neg s2, a0]
        exact kk 0 ⟨by omega, ⟨fun _ w => (w i (by omega)).elim s1 s2, fun _ => rfl⟩⟩
theorem E_whatIs {σ : IM} {ρ : RM} {kf : KF} {μ : IM} (h : All σ ρ kf μ) (a1 a2 a3 : Int32) : Same1 kf σ ρ (X11_whatIs kf σ ρ a1 a2 a3) (X12_whatIs μ a1 a2 a3) := by
  unfold X11_whatIs X12_whatIs
  obtain ⟨⟨f, hf⟩, hr⟩ := h
  have h0 : All σ ρ kf μ := ⟨⟨f, hf⟩, hr⟩
  have hI := hf.1
  have hN := hI.1
  have hA := hf.2.2.2.2
  rcases knows hf a2 with ⟨k, hk, rfl, q1, q2⟩ | ⟨q1, q2⟩
  · rw [q1, q2, bd1_s, bd1_s, if_neg n10, if_neg n10]
    rcases rng a3 2 (by omega) with ⟨w, hw, rfl, w1, w2⟩ | ⟨w1, w2, -⟩
    · rw [show X11_isBelow (nI w) 2 = some 1 from w1, show X12_isIn (nI w) 0 1 = some 1 from w2, bd1_s, bd1_s, if_neg n10, if_neg n10]
      rcases wantC hr.2.1 a1 with ⟨d, so, sz, hd, rfl, g, h9, v1, v2⟩ | ⟨d, so, sz, hd, rfl, g, h9, v1, v2⟩ | ⟨r, hr0, v1, v2⟩
      · obtain ⟨i1, i2⟩ := hI.2.2.2.1 k hk
        obtain ⟨qs, e1, e2⟩ := hf.2.2.2.1 k hk
        unfold X12_whatIs_b47
        rw [v1, v2, bd1_s, bd1_s, if_pos rfl, if_pos rfl, szR hd g, if_pos (show nI sz ≤ 9 from nI_le (b := 9) h9 (by omega)), if_pos rfl]
        rcases (show w = 0 ∨ w = 1 by omega) with rfl | rfl
        · rw [if_pos z00, ixN (by omega) (by omega)]
          have key := loop_i (σ := Int32 × IM) (fun n i z => ∃ r μ', X11_kindsThatFell_b4 kf σ ρ d n z.1 (nI i) = some r ∧ X12_whatIs_b61 n (nI d) (nI k) (nI 0) z.1 (nI i) z.2 = some (r, μ') ∧ FR μ μ') (fun i z => FR μ z.2) 8 ?_ ?_ 1000 0 (0, μ) (by omega) (by omega) FR.rf
          · obtain ⟨r, μ', x1, x2, fr⟩ := key
            refine ⟨r, μ', ?_, x2, h0.fr FC.rf fr⟩
            unfold X11_kindsThatFell
            rw [show X11_kindsThatFell_b4 kf σ ρ d 1000 0 0 = some r from x1]
            rfl
          · rintro n ⟨acc, ν⟩ fr
            refine ⟨acc, ν, ?_, ?_, fr⟩
            · show X11_kindsThatFell_s4 kf σ ρ d _ acc (nI 8) = _
              unfold X11_kindsThatFell_s4
              rw [if_pos (show (8 : Int32) ≤ nI 8 by decide)]
            · show X12_whatIs_s61 _ (nI d) (nI k) (nI 0) acc (nI 8) ν = _
              unfold X12_whatIs_s61 X12_whatIs_b73
              rw [if_pos z00, if_pos (show (8 : Int32) ≤ nI 8 by decide)]
          · rintro n i ⟨acc, ν⟩ hi fr kk
            dsimp only at fr
            obtain ⟨sq, s1, s2⟩ := hr.2.2 i hi
            have hA' : RA (ν 1) f := by rw [fr.1]; exact hA
            obtain ⟨ν1, c1, m2, g2, -⟩ := N_copies hA'
            have m3 : RA (up2 ν1 2 (4 + 2 * k) (nI i) 2) (fup f (4 + 2 * k) i) := m2.w (by omega)
            have g3 : FR μ (up2 ν1 2 (4 + 2 * k) (nI i)) := (fr.tr g2).tr ⟨up2_o (by omega), up2_o (by omega), fun i hi => up2_o (by omega), by rw [up2_o (by omega)]⟩
            have gg := g.fr hd (FC.rf (σ := σ) (ρ := ρ)) g3
            have en : ∀ n v, SayA (up2 ν1 2 (4 + 2 * k) (nI i)) d so v n ↔ SayA μ d so v n := fun n v => by
              unfold SayA
              rw [g3.2.2.1 12 (by omega)]
            obtain ⟨b, b1, b2⟩ := R_tells (K := X12_whatIs_b61 n) (k := k) (x3 := nI 0) (x5 := acc) (x6 := nI i) hd gg h9 m3 (by omega) (by rw [fup_s]; exact hi) (by rw [fup_o (by omega)]; exact hI.2.2.1)
            rw [fup_s, fup_o (by omega), en] at b2
            show ∃ r μ', X11_kindsThatFell_s4 kf σ ρ d (X11_kindsThatFell_b4 kf σ ρ d n) acc (nI i) = some r ∧ X12_whatIs_s61 (X12_whatIs_b61 n) (nI d) (nI k) (nI 0) acc (nI i) ν = some (r, μ') ∧ _
            unfold X11_kindsThatFell_s4 X12_whatIs_s61 X12_whatIs_b73 X12_whatIs_b119 X11_kindsThatFell_b36
            rw [if_neg (show ¬ (8 : Int32) ≤ nI i from nI_ge (b := 8) hi (by omega)), if_pos z00, if_neg (show ¬ (8 : Int32) ≤ nI i from nI_ge (b := 8) hi (by omega)), rqN hi (by omega), s1, bd1_s, hf.2.2.1.draught, c1, bd1_s, if_pos z00, R_ofS0, bd1_s, wrN (by omega) (by omega), b1]
            unfold X12_whatIs_b199
            simp only [bd_e, nI_1, Int32.or_zero]
            rcases C_tellsFalls g h9 s2 hi (by omega) hI.2.2.1 with ⟨t1, t2⟩ | ⟨t1, t2⟩
            · rw [t1, bd1_s, if_neg n10, if_neg (fun q => b2.mp q t2)]
              exact kk (acc ||| 1 <<< (nI i &&& 31), _) g3
            · rw [t1, bd1_s, if_pos rfl, if_pos (b2.mpr t2)]
              exact kk (acc, _) g3
        · rw [if_neg z10, ixN (by omega) (by omega), rqN (by omega) (by omega), e1, bd1_s]
          have key := loop_i (σ := Int32 × IM) (fun n i z => ∃ r μ', X11_draughtsThatBlew_b4 kf σ ρ d qs n z.1 (nI i - 1) = some r ∧ X12_whatIs_b61 n (nI d) (nI k) (nI 1) z.1 (nI i) z.2 = some (r, μ') ∧ FR μ μ') (fun i z => FR μ z.2) 3 ?_ ?_ 1000 0 (0, μ) (by omega) (by omega) FR.rf
          · obtain ⟨r, μ', x1, x2, fr⟩ := key
            refine ⟨r, μ', ?_, x2, h0.fr FC.rf fr⟩
            unfold X11_draughtsThatBlew
            rw [show X11_draughtsThatBlew_b4 kf σ ρ d qs 1000 0 (-1) = some r from x1]
            rfl
          · rintro n ⟨acc, ν⟩ fr
            refine ⟨acc, ν, ?_, ?_, fr⟩
            · show X11_draughtsThatBlew_s4 kf σ ρ d qs _ acc (nI 3 - 1) = _
              unfold X11_draughtsThatBlew_s4
              rw [if_pos (by decide)]
            · show X12_whatIs_s61 _ (nI d) (nI k) (nI 1) acc (nI 3) ν = _
              unfold X12_whatIs_s61 X12_whatIs_b73
              rw [if_neg z10, if_pos (show (3 : Int32) ≤ nI 3 by decide)]
          · rintro n i ⟨acc, ν⟩ hi fr kk
            dsimp only at fr
            have hA' : RA (ν 1) f := by rw [fr.1]; exact hA
            obtain ⟨ν1, c1, m2, g2, -⟩ := N_copies hA'
            have m3 : RA (up2 ν1 2 3 (nI i - 1) 2) (fup f 3 i) := m2.w3
            have g3 : FR μ (up2 ν1 2 3 (nI i - 1)) := (fr.tr g2).tr ⟨up2_o (by omega), up2_o (by omega), fun i hi => up2_o (by omega), by rw [up2_o (by omega)]⟩
            have gg := g.fr hd (FC.rf (σ := σ) (ρ := ρ)) g3
            have en : ∀ n v, SayA (up2 ν1 2 3 (nI i - 1)) d so v n ↔ SayA μ d so v n := fun n v => by
              unfold SayA
              rw [g3.2.2.1 12 (by omega)]
            obtain ⟨b, b1, b2⟩ := R_tells (K := X12_whatIs_b61 n) (k := k) (x3 := nI 1) (x5 := acc) (x6 := nI i) hd gg h9 m3 (by omega) (by rw [fup_o (by omega)]; exact i1) (by rw [fup_s]; exact hi)
            rw [fup_s, fup_o (by omega), en] at b2
            have e3 : ¬ (1 : Int32) < nI i - 1 := by
              have : ∀ i, i < 3 → ¬ (1 : Int32) < nI i - 1 := by decide
              exact this i hi
            show ∃ r μ', X11_draughtsThatBlew_s4 kf σ ρ d qs (X11_draughtsThatBlew_b4 kf σ ρ d qs n) acc (nI i - 1) = some r ∧ X12_whatIs_s61 (X12_whatIs_b61 n) (nI d) (nI k) (nI 1) acc (nI i) ν = some (r, μ') ∧ _
            unfold X11_draughtsThatBlew_s4 X12_whatIs_s61 X12_whatIs_b73 X12_whatIs_b119 X11_draughtsThatBlew_b26
            rw [if_neg e3, if_neg z10, if_neg (show ¬ (3 : Int32) ≤ nI i from nI_ge (b := 3) hi (by omega)), c1, bd1_s, if_neg z10, wr42_3, b1, show nI i - 1 + 1 = nI i from Int32.sub_add_cancel _ _]
            unfold X12_whatIs_b199
            simp only [bd_e, nI_1, Int32.or_zero]
            have kk' : ∀ z : Int32 × IM, FR μ z.2 → ∃ r μ', X11_draughtsThatBlew_b4 kf σ ρ d qs n z.1 (nI i) = some r ∧ X12_whatIs_b61 n (nI d) (nI k) (nI 1) z.1 (nI (i + 1)) z.2 = some (r, μ') ∧ FR μ μ' := fun z hz => by
              have := kk z hz
              rw [nI_pred] at this
              exact this
            rcases C_tellsFalls g h9 e2 i1 i2 hi with ⟨t1, t2⟩ | ⟨t1, t2⟩
            · rw [t1, bd1_s, if_neg n10, if_neg (fun q => b2.mp q t2)]
              exact kk' (acc ||| 1 <<< (nI i &&& 31), _) g3
            · rw [t1, bd1_s, if_pos rfl, if_pos (b2.mpr t2)]
              exact kk' (acc, _) g3
      · have hsz := g.2.2.2.1
        unfold X12_whatIs_b47
        rw [v1, v2, bd1_s, bd1_s, if_neg (by decide), if_pos rfl, szR hd g, if_neg (show ¬ nI sz ≤ 9 from nI_ge (a := 9) h9 (by omega)), if_neg (by decide)]
        exact ⟨_, μ, rfl, rfl, h0⟩
      · unfold X12_whatIs_b47
        rw [v1, v2, bd1_s, bd1_s, if_neg hr0, if_neg hr0, if_neg hr0]
        exact ⟨_, μ, rfl, rfl, h0⟩
    · exact ⟨-1, μ, by rw [show X11_isBelow a3 2 = some 0 from w1]; rfl, by rw [show X12_isIn a3 0 1 = some 0 from w2]; rfl, h0⟩
  · exact ⟨-1, μ, by rw [q1]; rfl, by rw [q2]; rfl, h0⟩
/-! habits -/
theorem C_tellsTakers {σ : IM} {ρ : RM} {kf : KF} {μ : IM} {d so sz : Nat} {g : Nat → Nat} (h : ShR σ ρ μ d so sz) (h9 : sz ≤ 9) (hM : MC σ ρ kf g) (hI : Inv g) (h0 : 0 < g 0) : (X11_tellsTakers kf σ ρ d 10 = some 1 ∧ SayA μ d so (fun i => whN g 0 i) sz) ∨ (X11_tellsTakers kf σ ρ d 10 = some 0 ∧ ¬ SayA μ d so (fun i => whN g 0 i) sz) := by
  obtain ⟨i1, i2⟩ := hI.2.2.2.1 0 h0
  unfold X11_tellsTakers
  refine loop_i (σ := Unit) (fun n i _ => (X11_tellsTakers_b2 kf σ ρ d 10 n (nI i) = some 1 ∧ SayA μ d so (fun i => whN g 0 i) sz) ∨ (X11_tellsTakers_b2 kf σ ρ d 10 n (nI i) = some 0 ∧ ¬ SayA μ d so (fun i => whN g 0 i) sz)) (fun i _ => SayA μ d so (fun i => whN g 0 i) i) sz ?_ ?_ 1000 0 () (by omega) (by omega) (fun j hj => absurd hj (by omega))
  · intro n _ hs
    refine Or.inl ⟨?_, hs⟩
    show X11_tellsTakers_s2 kf σ ρ d 10 _ (nI sz) = _
    unfold X11_tellsTakers_s2
    rw [h.2.2.2.2.2.2.1, if_pos (nI_le (Nat.le_refl _) (by omega))]
  · intro n i _ hi hs kk
    have hx : faN g 0 i < 9 := landN_lt _ i1 _ hI.2.2.1 _ (by omega)
    show (X11_tellsTakers_s2 kf σ ρ d 10 (X11_tellsTakers_b2 kf σ ρ d 10 n) (nI i) = some 1 ∧ _) ∨ (X11_tellsTakers_s2 kf σ ρ d 10 (X11_tellsTakers_b2 kf σ ρ d 10 n) (nI i) = some 0 ∧ _)
    unfold X11_tellsTakers_s2
    rw [h.2.2.2.2.2.2.1, if_neg (nI_ge hi (by omega)), show X1_landing kf σ ρ 10 0 (nI i) = _ from C_landing (k := 0) hM.1 hM.2 hI h0 (by omega), bd1_s, show X1_takerOf kf σ ρ 10 (nI (faN g 0 i)) = some (nI (whN g 0 i)) from C_takerOf hM.1 hI hx, bd1_s]
    rcases allowsB (kf := kf) h hi (whN g 0 i) with ⟨e, y⟩ | ⟨e, y⟩
    · rw [e, bd1_s, if_neg n10, bd_e, nI_1]
      exact kk () (hs.up y)
    · rw [e, bd1_s, if_pos rfl]
      exact Or.inr ⟨rfl, fun w => y (w i hi)⟩
theorem R_tellsH {σ : IM} {ρ : RM} {μ : IM} {d so sz : Nat} {f g : Nat → Nat} (hd : d < 8) (h : ShR σ ρ μ d so sz) (h9 : sz ≤ 9) (hA1 : RA (μ 1) f) (hf2 : f 2 < 4) (e2 : g 2 = f 2) (hA : RA (μ 2) g) (hI : Inv g) (h0 : 0 < g 0) {K : Int32 → Int32 → Int32 → IM → Option (Int32 × IM)} {x3 x4 : Int32} : ∃ b : Nat, X12_habits_b90 K 1000 (nI d) x3 x4 1 0 μ = (if b = 0 then X12_habits_b177 K (nI d) x4 0 x3 μ else X12_habits_b177 K (nI d) x4 (1 <<< (x4 &&& 31)) x3 μ) ∧ (b = 0 ↔ ¬ SayA μ d so (fun i => whN g 0 i) sz) := by
  obtain ⟨i1, i2⟩ := hI.2.2.2.1 0 h0
  have es : sdN f = sdN g := by
    unfold sdN
    rw [e2]
  have sl := sdN_le g
  refine loop_i (σ := Nat) (fun n i a => ∃ b : Nat, X12_habits_b90 K n (nI d) x3 x4 (nI a) (nI i) μ = (if b = 0 then X12_habits_b177 K (nI d) x4 0 x3 μ else X12_habits_b177 K (nI d) x4 (1 <<< (x4 &&& 31)) x3 μ) ∧ (b = 0 ↔ ¬ SayA μ d so (fun i => whN g 0 i) sz)) (fun i a => a ≤ 1 ∧ (a = 0 ↔ ¬ SayA μ d so (fun i => whN g 0 i) i)) sz ?_ ?_ 1000 0 1 (by omega) (by omega) ⟨Nat.le_refl 1, ⟨fun q => absurd q (by omega), fun q => absurd (fun j hj => absurd hj (by omega)) q⟩⟩
  · rintro n a ⟨ha, hs⟩
    refine ⟨a, ?_, hs⟩
    show X12_habits_s90 K _ (nI d) x3 x4 (nI a) (nI sz) μ = _
    unfold X12_habits_s90
    rw [szR hd h, if_pos (nI_le (Nat.le_refl _) (by omega))]
    rcases (show a = 0 ∨ a = 1 by omega) with rfl | rfl
    · rw [if_pos z00, if_pos rfl]
    · rw [if_neg z10, if_neg (by omega)]
  · rintro n i a hi ⟨ha, hs⟩ kk
    have hx : faN g 0 i < 9 := landN_lt _ i1 _ hI.2.2.1 _ (by omega)
    show ∃ b : Nat, X12_habits_s90 K (X12_habits_b90 K n) (nI d) x3 x4 (nI a) (nI i) μ = _ ∧ _
    unfold X12_habits_s90 X12_habits_b149 X12_habits_b154
    rw [szR hd h, if_neg (nI_ge hi (by omega)), R_skip hd h hi, bd1_s, elR hd (by omega), R_otherSide hA1 hf2, bd1_s, show X12_fallsIn μ 2 0 (nI i) = _ from R_fallsIn (k := 0) hA (by omega) i1 hI.2.2.1 (by omega), bd1_s, es, R_whoseIn hA (by omega) hI hx, bd1_s, show whoN g (sdN g) (faN g 0 i) = whN g 0 i from rfl]
    simp only [bd_e, nI_1]
    have a0 : nI a &&& 0 = nI 0 := Int32.and_zero
    have a1 : nI a &&& 1 = nI a := by
      rcases (show a = 0 ∨ a = 1 by omega) with rfl | rfl <;> rfl
    have yes : (μ 12 (100 * d + i) = lsV so ∨ μ 12 (100 * d + i) = nI (whN g 0 i)) → ∃ b : Nat, X12_habits_b90 K n (nI d) x3 x4 (nI a) (nI (i + 1)) μ = (if b = 0 then X12_habits_b177 K (nI d) x4 0 x3 μ else X12_habits_b177 K (nI d) x4 (1 <<< (x4 &&& 31)) x3 μ) ∧ (b = 0 ↔ ¬ SayA μ d so (fun i => whN g 0 i) sz) := fun y =>
      kk a ⟨ha, hs.trans ⟨fun q w => q (fun j hj => w j (by omega)), fun q w => q (w.up y)⟩⟩
    by_cases s1 : μ 12 (100 * d + i) = lsV so
    · rw [if_pos s1, if_neg n10, a1]
      exact yes (Or.inl s1)
    · rw [if_neg s1, if_pos rfl]
      by_cases s2 : μ 12 (100 * d + i) = nI (whN g 0 i)
      · rw [if_pos s2, a1]
        exact yes (Or.inr s2)
      · rw [if_neg s2, a0]
        exact kk 0 ⟨by omega, ⟨fun _ w => (w i (by omega)).elim s1 s2, fun _ => rfl⟩⟩
theorem fup_fup {f : Nat → Nat} {i a b : Nat} : fup (fup f i a) i b = fup f i b := by
  funext j
  unfold fup
  split <;> rfl
theorem fup_id {f : Nat → Nat} {i : Nat} : fup f i (f i) = f := by
  funext j
  unfold fup
  split
  · rename_i e
    rw [e]
  · rfl
theorem E_habits {σ : IM} {ρ : RM} {kf : KF} {μ : IM} (h : All σ ρ kf μ) (a1 : Int32) : Same3 kf (X11_habits kf σ ρ a1) (X12_habits μ a1) := by
  unfold X11_habits X12_habits
  obtain ⟨⟨f, hf⟩, hr⟩ := h
  have h0 : All σ ρ kf μ := ⟨⟨f, hf⟩, hr⟩
  have hI := hf.1
  have hN := hI.1
  have hA := hf.2.2.2.2
  have sl := sdN_le f
  rcases wantC hr.2.1 a1 with ⟨d, so, sz, hd, rfl, g, h9, v1, v2⟩ | ⟨d, so, sz, hd, rfl, g, h9, v1, v2⟩ | ⟨r, hr0, v1, v2⟩
  · unfold X12_habits_b25 X12_habits_b41
    rw [v1, v2, bd1_s, bd1_s, if_pos rfl, if_pos rfl, szR hd g, if_pos (show nI sz ≤ 9 from nI_le (b := 9) h9 (by omega)), if_pos rfl, rd42_0, hf.2.2.1.known, hA.1 0 (by omega) (by omega)]
    by_cases z : f 0 = 0
    · refine Same3.no h0 (r := -3) ?_ ?_
      · rw [z]
        rfl
      · rw [z]
        rfl
    · have hnz : ¬ nI (f 0) = 0 := nI_ne0 (by omega) (by omega)
      obtain ⟨τ1, ω1, b1, m1, g1, -⟩ := M_become hf
      rw [if_neg hnz, if_neg hnz, b1, bd2_s, if_pos rfl]
      refine loop_i (σ := Int32 × IM × IM) (fun n i z => Same3 kf (X11_habits_b41 kf n (nI d) z.1 (nI i) z.2.1 ω1) (X12_habits_b52 n (nI d) z.1 (nI i) z.2.2)) (fun i z => FC σ ρ z.2.1 ω1 ∧ FR μ z.2.2 ∧ ∃ v, v ≤ 3 ∧ MC z.2.1 ω1 kf (fup f (37 + 3 * sdN f) v)) 4 ?_ ?_ 1000 0 (0, τ1, μ) (by omega) (by omega) ⟨g1, FR.rf, f (37 + 3 * sdN f), (hI.2.2.2.2.2 (sdN f) (by omega)).2, by rw [fup_id]; exact m1⟩
      · rintro n ⟨acc, τ, ν⟩ ⟨fc, fr, -⟩
        refine ⟨acc, τ, ω1, ν, ?_, ?_, h0.fr fc fr⟩
        · show X11_habits_s41 kf _ (nI d) acc (nI 4) τ ω1 = _
          unfold X11_habits_s41
          rw [if_pos (show (4 : Int32) ≤ nI 4 by decide)]
        · show X12_habits_s52 _ (nI d) acc (nI 4) ν = _
          unfold X12_habits_s52
          rw [if_pos (show (4 : Int32) ≤ nI 4 by decide)]
      · rintro n i ⟨acc, τ, ν⟩ hi ⟨fc, fr, v, hv, hM⟩ kk
        dsimp only at fc fr hM
        have hn : Now τ ω1 kf ν f := hf.fr fc fr
        have iv : Inv (fup f (37 + 3 * sdN f) v) := hI.up 0 (sdN f) (by omega)
        have w2 : ∀ u, fup f (37 + 3 * sdN f) u 2 = f 2 := fun u => fup_o (by omega)
        have w0 : ∀ u, fup f (37 + 3 * sdN f) u 0 = f 0 := fun u => fup_o (by omega)
        have ws : ∀ u, sdN (fup f (37 + 3 * sdN f) u) = sdN f := fun u => by
          show 1 - fup f (37 + 3 * sdN f) u 2 / 2 = 1 - f 2 / 2
          rw [w2]
        have m2 : MC (up2 τ (10 + 6) (sdN f) (nI i)) ω1 kf (fup f (37 + 3 * sdN f) i) := by
          have q : CR (up2 τ (10 + 6) (sdN f) (nI i)) 10 (fup (fup f (37 + 3 * sdN f) v) (37 + 3 * sdN f) i) := hM.1.wHabit (by omega)
          rw [fup_fup] at q
          exact ⟨q, by have := hM.2.up (i := 37 + 3 * sdN f) (v := i) (by rw [w0]; exact hN) (by omega) (by omega); rwa [fup_fup] at this⟩
        have g2 : FC τ ω1 (up2 τ (10 + 6) (sdN f) (nI i)) ω1 := ⟨fun i l1 l2 => up2_o (by omega), fun i l1 l2 => up2_o (by omega), by rw [up2_o (by omega)], fun _ _ => rfl⟩
        have fc2 := fc.tr g2
        have iv2 : Inv (fup f (37 + 3 * sdN f) i) := hI.up 0 (sdN f) (by omega)
        have hA' : RA (ν 1) f := hn.2.2.2.2
        obtain ⟨ν1, c1, a1, g3, o3⟩ := N_copies hA'
        have hA1 : RA (ν1 1) f := by rw [g3.1]; exact hA'
        have a2 : RA (up2 ν1 2 (37 + 3 * sdN f) (nI i) 2) (fup f (37 + 3 * sdN f) i) := a1.w (by omega)
        have g4 : FR ν1 (up2 ν1 2 (37 + 3 * sdN f) (nI i)) := ⟨up2_o (by omega), up2_o (by omega), fun i hi => up2_o (by omega), by rw [up2_o (by omega)]⟩
        have fr2 := (fr.tr g3).tr g4
        have gC := g.fr hd fc2 FR.rf
        have gR := g.fr hd fc2 fr2
        have en : ∀ n v, SayA (up2 ν1 2 (37 + 3 * sdN f) (nI i)) d so v n ↔ SayA μ d so v n := fun n v => by
          unfold SayA
          rw [fr2.2.2.1 12 (by omega)]
        obtain ⟨b, b1, b2⟩ := R_tellsH (f := f) (K := X12_habits_b52 n) (x3 := acc) (x4 := nI i) hd gR h9 (by rw [g4.1]; exact hA1) hI.2.1 (w2 i) a2 iv2 (by rw [w0]; omega)
        rw [en] at b2
        have fin : FC σ ρ (up2 τ (10 + 6) (sdN f) (nI i)) ω1 ∧ FR μ (up2 ν1 2 (37 + 3 * sdN f) (nI i)) ∧ ∃ v, v ≤ 3 ∧ MC (up2 τ (10 + 6) (sdN f) (nI i)) ω1 kf (fup f (37 + 3 * sdN f) v) := ⟨fc2, fr2, i, by omega, m2⟩
        show Same3 kf (X11_habits_s41 kf (X11_habits_b41 kf n) (nI d) acc (nI i) τ ω1) (X12_habits_s52 (X12_habits_b52 n) (nI d) acc (nI i) ν)
        unfold X11_habits_s41 X12_habits_s52 X11_habits_b87
        have eo : X12_ofSide (nI (sdN f)) 1 = some (nI (37 + 3 * sdN f)) := by rw [show (1 : Int32) = nI 1 from rfl, R_ofSn, show 36 + 3 * sdN f + 1 = 37 + 3 * sdN f by omega]
        rw [if_neg (show ¬ (4 : Int32) ≤ nI i from nI_ge (b := 4) hi (by omega)), if_neg (show ¬ (4 : Int32) ≤ nI i from nI_ge (b := 4) hi (by omega)), C_receivers hM.1 iv.2.1, bd1_s, ws, wrN (by omega) (by omega), ixN (by omega) (by omega), c1, bd1_s, R_otherSide hA1 hI.2.1, bd1_s, eo, bd1_s, wrN (by omega) (by omega), b1]
        unfold X12_habits_b177
        simp only [bd_e, nI_1, Int32.or_zero]
        rcases C_tellsTakers gC h9 m2 iv2 (by rw [w0]; omega) with ⟨t1, t2⟩ | ⟨t1, t2⟩
        · rw [t1, bd1_s, if_neg n10, if_neg (fun q => b2.mp q t2)]
          exact kk (acc ||| 1 <<< (nI i &&& 31), _, _) fin
        · rw [t1, bd1_s, if_pos rfl, if_pos (b2.mpr t2)]
          exact kk (acc, _, _) fin
  · have hsz := g.2.2.2.1
    unfold X12_habits_b25 X12_habits_b41
    rw [v1, v2, bd1_s, bd1_s, if_neg (by decide), if_pos rfl, szR hd g, if_neg (show ¬ nI sz ≤ 9 from nI_ge (a := 9) h9 (by omega)), if_neg (by decide), if_neg (by decide)]
    exact Same3.no h0 rfl rfl
  · unfold X12_habits_b25 X12_habits_b41
    rw [v1, v2, bd1_s, bd1_s, if_neg hr0, if_neg hr0, if_neg hr0, if_neg hr0]
    exact Same3.no h0 rfl rfl
