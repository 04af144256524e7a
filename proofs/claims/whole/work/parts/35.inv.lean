/-! a hit keeps all in range, and the strokes -/
theorem np_wh {f : Nat → Nat} {k c : Nat} (pt : ¬ ptN f k c) : (whN f k c = 2 * sdN f ∨ whN f k c = 2 * sdN f + 1) ∧ whN f k c < 4 ∧ mateN (whN f k c) < 4 ∧ mateN (whN f k c) ≠ whN f k c := by
  have hs := sdN_le f
  have hw := whoN_or f (sdN f) (faN f k c)
  rw [ptN_iff] at pt
  have h9 : whN f k c ≠ 9 := fun q => pt (Or.inl q)
  have hw' : whN f k c = 9 ∨ whN f k c = 2 * sdN f ∨ whN f k c = 2 * sdN f + 1 := hw
  unfold mateN
  split <;> omega
theorem hitN_o {f : Nat → Nat} {k c j : Nat} (h2 : f 2 < 4) (h1 : j ≠ 1) (hj : j ≠ 2) (h : j < 20 ∨ 41 < j ∨ j = 36 ∨ j = 37 ∨ j = 39 ∨ j = 40 ∨ (20 ≤ j ∧ j < 36 ∧ (j % 4 = 1 ∨ j % 4 = 3))) : hitN f k c j = f j := by
  have hs := sdN_le f
  unfold hitN
  split
  · rw [fup_o hj, fup_o (by omega), trN_o h2 h1 (by omega)]
  · rename_i pt
    have := np_wh pt
    rw [fup_o (by omega), fup_o hj, tireN_o (by omega), fup_o (by omega), trN_o h2 h1 (by omega)]
theorem hitN_1 {f : Nat → Nat} {k c : Nat} (h2 : f 2 < 4) : hitN f k c 1 = f 1 + 1 := by
  have hs := sdN_le f
  have t : trN f k c 1 = f 1 + 1 := by
    unfold trN
    split
    · rw [tireN_o (by omega), tireN_o (by omega), tireN_o (by omega), fup_s]
    · rw [tireN_o (by omega), fup_s]
  unfold hitN
  split
  · rw [fup_o (by omega), fup_o (by omega), t]
  · rw [fup_o (by omega), fup_o (by omega), tireN_o (by omega), fup_o (by omega), t]
theorem hitN_pt {f : Nat → Nat} {k c s : Nat} (h2 : f 2 < 4) (hs : s < 2) : hitN f k c (38 + 3 * s) = f (38 + 3 * s) + (if ptN f k c ∧ s = f 2 / 2 then 1 else 0) := by
  have hd : sdN f = 1 - f 2 / 2 := rfl
  have t : trN f k c (38 + 3 * s) = f (38 + 3 * s) := trN_o h2 (by omega) (by omega)
  by_cases pt : ptN f k c
  · unfold hitN
    rw [if_pos pt, fup_o (by omega)]
    by_cases e : s = f 2 / 2
    · rw [show 1 - sdN f = s by omega, fup_s, t, if_pos ⟨pt, e⟩]
    · rw [fup_o (by omega), t, if_neg (fun q => e q.2), Nat.add_zero]
  · have hw := whoN_or f (sdN f) (faN f k c)
    have np := pt
    rw [ptN_iff] at np
    have hw4 : whN f k c < 4 := by
      have : whN f k c ≠ 9 := fun q => np (Or.inl q)
      show whoN f (sdN f) (faN f k c) < 4
      have : whoN f (sdN f) (faN f k c) ≠ 9 := this
      omega
    have hm : mateN (whN f k c) < 4 := by
      unfold mateN
      split <;> omega
    unfold hitN
    rw [if_neg pt, fup_o (by omega), fup_o (by omega), tireN_o (by omega), fup_o (by omega), t, if_neg (fun q => pt q.1), Nat.add_zero]
theorem hitN_Inv {f : Nat → Nat} {k c : Nat} (hI : Inv f) (hk : k < f 0) (hc : c < 9) : Inv (hitN f k c) := by
  have h2 := hI.2.1
  have hP := hI.2.2.2.2.1
  have hS := hI.2.2.2.2.2
  obtain ⟨i1, i2⟩ := hI.2.2.2.1 k hk
  have hsd := sdN_le f
  have hd : sdN f = 1 - f 2 / 2 := rfl
  have hx : faN f k c < 9 := landN_lt _ i1 _ hI.2.2.1 _ hc
  have ht : tiN f k c < 8 := timeN_lt _ i1 _ i2 _ hx
  have e0 : hitN f k c 0 = f 0 := hitN_o h2 (by omega) (by omega) (by omega)
  have core : hitN f k c 2 < 4 ∧ ∀ p, p < 4 → hitN f k c (20 + 4 * p) < 9 ∧ hitN f k c (22 + 4 * p) ≤ 99 := by
    by_cases pt : ptN f k c
    · unfold hitN
      simp only [if_pos pt]
      refine ⟨by rw [fup_s]; omega, fun p hp => ⟨?_, ?_⟩⟩
      · rw [fup_o (by omega), fup_o (by omega), trN_o h2 (by omega) (by omega)]
        exact (hP p hp).1
      · rw [fup_o (by omega), fup_o (by omega)]
        exact trN_t hP p hp
    · have hw := whoN_or f (sdN f) (faN f k c)
      have np := pt
      rw [ptN_iff] at np
      obtain ⟨w, ew⟩ : ∃ w, whN f k c = w := ⟨_, rfl⟩
      have hw4 : w = 2 * sdN f ∨ w = 2 * sdN f + 1 := by
        have h9 : whN f k c ≠ 9 := fun q => np (Or.inl q)
        have ew' : whoN f (sdN f) (faN f k c) = w := ew
        rw [ew] at h9
        rw [ew'] at hw
        omega
      have hm : mateN w < 4 ∧ mateN w ≠ w := by
        unfold mateN
        split <;> omega
      have io := hP (mateN w) hm.1
      have pl := placeN_lt _ (show f (36 + 3 * sdN f) < 2 by have := (hS _ (show sdN f < 2 by omega)).1; omega) _ hx
      have sl : stepsN (tiN f k c) (f (21 + 4 * mateN w)) (trN f k c (22 + 4 * mateN w)) < 29 := stepsN_lt ht io.2.2.1
      have tw := towN_lt _ io.1 _ pl _ sl
      unfold hitN
      simp only [if_neg pt, ew]
      refine ⟨by rw [fup_o (by omega), fup_s]; omega, fun p hp => ⟨?_, ?_⟩⟩
      · by_cases e1 : p = mateN w
        · rw [e1, fup_s]
          exact tw
        · rw [fup_o (by omega), fup_o (by omega), tireN_o (by omega)]
          by_cases e2 : p = w
          · rw [e2, fup_s]
            exact hx
          · rw [fup_o (by omega), trN_o h2 (by omega) (by omega)]
            exact (hP p hp).1
      · rw [fup_o (by omega), fup_o (by omega)]
        refine tireN_le2 ?_
        rw [fup_o (by omega)]
        exact trN_t hP p hp
  refine ⟨by rw [e0]; exact hI.1, core.1, by rw [hitN_o h2 (by omega) (by omega) (by omega)]; exact hI.2.2.1, fun j hj => ?_, fun p hp => ?_, fun s hs => ?_⟩
  · rw [e0] at hj
    have := hI.1
    rw [hitN_o h2 (by omega) (by omega) (by omega), hitN_o h2 (by omega) (by omega) (by omega)]
    exact hI.2.2.2.1 j hj
  · have ip := hP p hp
    refine ⟨(core.2 p hp).1, ?_, ?_, (core.2 p hp).2, ?_⟩
    · rw [hitN_o h2 (by omega) (by omega) (by omega)]
      exact ip.2.1
    · rw [hitN_o h2 (by omega) (by omega) (by omega)]
      exact ip.2.2.1
    · rw [hitN_o h2 (by omega) (by omega) (by omega)]
      exact ip.2.2.2.2
  · rw [hitN_o h2 (by omega) (by omega) (by omega), hitN_o h2 (by omega) (by omega) (by omega)]
    exact hS s hs
theorem hitN_0 {f : Nat → Nat} {k c : Nat} (h2 : f 2 < 4) : hitN f k c 0 = f 0 := hitN_o h2 (by omega) (by omega) (by omega)
theorem SR.hit {ρ : RM} {kf : KF} {c : Nat} {f : Nat → Nat} (h : SR ρ kf c f) (hI : Inv f) (k x : Nat) : SR ρ kf c (hitN f k x) := by
  have h2 := hI.2.1
  have := hI.1
  intro j hj
  rw [hitN_0 h2] at hj
  rw [hitN_o h2 (by omega) (by omega) (by omega), hitN_o h2 (by omega) (by omega) (by omega)]
  exact h j hj
