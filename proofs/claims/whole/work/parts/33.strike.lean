/-- whose it is, by the class: 8 both's, 9 nobody's -/
def clN (f : Nat → Nat) (sd x : Nat) : Nat :=
  if wayN (f (20 + 8 * sd)) x < wayN (f (24 + 8 * sd)) x then 2 * sd
  else if wayN (f (24 + 8 * sd)) x < wayN (f (20 + 8 * sd)) x then 2 * sd + 1
  else if f (37 + 3 * sd) = 0 then 9 else if f (37 + 3 * sd) = 1 then 2 * sd else if f (37 + 3 * sd) = 2 then 8
  else if f (23 + 8 * sd) = f (27 + 8 * sd) then 9 else if f (23 + 8 * sd) = 1 then 2 * sd else 2 * sd + 1
def clF (wa wb h la lb sd : Nat) : Nat := if wa < wb then 2 * sd else if wb < wa then 2 * sd + 1 else if h = 0 then 9 else if h = 1 then 2 * sd else if h = 2 then 8 else if la = lb then 9 else if la = 1 then 2 * sd else 2 * sd + 1
def whF (wa wb h la lb sd : Nat) : Nat := if wa < wb then 2 * sd else if wb < wa then 2 * sd + 1 else if h = 1 ∨ h = 2 then 2 * sd else if h = 3 ∧ la ≠ lb then (if la = 1 then 2 * sd else 2 * sd + 1) else 9
def clB (wa wb h la lb sd : Nat) : Bool := decide (whF wa wb h la lb sd = (if clF wa wb h la lb sd = 8 then 2 * sd else clF wa wb h la lb sd)) && decide ((h = 2 ∧ wa = wb) ↔ clF wa wb h la lb sd = 8) && decide (clF wa wb h la lb sd = 9 ∨ clF wa wb h la lb sd = 8 ∨ clF wa wb h la lb sd = 2 * sd ∨ clF wa wb h la lb sd = 2 * sd + 1)
theorem clB_ok : ∀ wa, wa < 5 → ∀ wb, wb < 5 → ∀ h, h < 4 → ∀ la, la < 2 → ∀ lb, lb < 2 → ∀ sd, sd < 2 → clB wa wb h la lb sd = true := by decide +kernel
theorem clN_who {f : Nat → Nat} {sd x : Nat} (hs : sd ≤ 1) (hh : f (37 + 3 * sd) ≤ 3) (b1 : f (20 + 8 * sd) < 9) (b2 : f (24 + 8 * sd) < 9) (l1 : f (23 + 8 * sd) ≤ 1) (l2 : f (27 + 8 * sd) ≤ 1) (hx : x < 9) : whoN f sd x = (if clN f sd x = 8 then 2 * sd else clN f sd x) ∧ (bothN f sd x ↔ clN f sd x = 8) ∧ (clN f sd x = 9 ∨ clN f sd x = 8 ∨ clN f sd x = 2 * sd ∨ clN f sd x = 2 * sd + 1) := by
  have e := clB_ok _ (wayN_lt _ b1 _ hx) _ (wayN_lt _ b2 _ hx) _ (show f (37 + 3 * sd) < 4 by omega) _ (show f (23 + 8 * sd) < 2 by omega) _ (show f (27 + 8 * sd) < 2 by omega) _ (show sd < 2 by omega)
  unfold clB at e
  simp only [Bool.and_eq_true, decide_eq_true_eq] at e
  exact ⟨e.1.1, e.1.2, e.2⟩
theorem Inv.sd {f : Nat → Nat} (hI : Inv f) {sd : Nat} (hs : sd ≤ 1) : f (37 + 3 * sd) ≤ 3 ∧ f (20 + 8 * sd) < 9 ∧ f (24 + 8 * sd) < 9 ∧ f (23 + 8 * sd) ≤ 1 ∧ f (27 + 8 * sd) ≤ 1 := by
  have ia := hI.2.2.2.2.1 (2 * sd) (by omega)
  have ib := hI.2.2.2.2.1 (2 * sd + 1) (by omega)
  unfold InvP at ia ib
  rw [show 20 + 4 * (2 * sd) = 20 + 8 * sd by omega, show 23 + 4 * (2 * sd) = 23 + 8 * sd by omega] at ia
  rw [show 20 + 4 * (2 * sd + 1) = 24 + 8 * sd by omega, show 23 + 4 * (2 * sd + 1) = 27 + 8 * sd by omega] at ib
  exact ⟨(hI.2.2.2.2.2 sd (by omega)).2, ia.1, ib.1, ia.2.2.2.2, ib.2.2.2.2⟩
theorem C_receivers {kf : KF} {σ : IM} {ρ : RM} {c : Nat} {f : Nat → Nat} (h : CR σ c f) (h2 : f 2 < 4) : X1_receivers kf σ ρ c = some (nI (sdN f)) := by
  unfold X1_receivers
  rw [h.has, show (2 : Int32) = nI 2 from rfl, nI_div (by omega) (by omega) (by omega), show (1 : Int32) = nI 1 from rfl, nI_sub (by omega)]
  rfl
theorem C_stepsIn {kf : KF} {σ : IM} {ρ : RM} {c : Nat} {f : Nat → Nat} {t p ti : Nat} (h : CR σ c f) (hp : p < 4) (hpa : f (21 + 4 * p) ≤ 4) (ht : t < 8) (hti : ti ≤ 99) : X1_stepsIn kf σ ρ c (nI t) (nI p) (nI ti) = some (nI (stepsN t (f (21 + 4 * p)) ti)) := by
  have e : ∀ pa, pa < 5 → ∀ ti, ti < 100 → ∀ t, t < 8 → (bd (if 1 < nI pa - (nI ti / 30) then nI pa - (nI ti / 30) else 1) fun v2 => some (nI t * v2)) = some (nI (stepsN t pa ti)) := by decide +kernel
  unfold X1_stepsIn
  rw [rdN hp (by omega), h.pace hp]
  exact e _ (by omega) _ (by omega) _ ht
theorem C_leftOneOf {kf : KF} {σ : IM} {ρ : RM} {c : Nat} {f : Nat → Nat} {sd : Nat} (h : CR σ c f) (hs : sd ≤ 1) (l1 : f (23 + 8 * sd) ≤ 1) (l2 : f (27 + 8 * sd) ≤ 1) : X1_leftOneOf kf σ ρ c (nI (2 * sd)) (nI (2 * sd + 1)) = some (nI (if f (23 + 8 * sd) = f (27 + 8 * sd) then 9 else if f (23 + 8 * sd) = 1 then 2 * sd else 2 * sd + 1)) := by
  have a := h.left (p := 2 * sd) (by omega)
  have b := h.left (p := 2 * sd + 1) (by omega)
  rw [show 23 + 4 * (2 * sd) = 23 + 8 * sd by omega] at a
  rw [show 23 + 4 * (2 * sd + 1) = 27 + 8 * sd by omega] at b
  unfold X1_leftOneOf
  rw [rdN (by omega) (by omega), rdN (by omega) (by omega), rdN (by omega) (by omega), a, b]
  simp only [lit32]
  by_cases c1 : f (23 + 8 * sd) = f (27 + 8 * sd)
  · rw [if_pos (by rw [c1]), if_pos c1]
  · rw [if_neg (by rw [nI_iff (by omega) (by omega)]; exact c1), if_neg c1]
    by_cases c2 : f (23 + 8 * sd) = 1
    · rw [if_pos (by rw [c2]), if_pos c2]
    · rw [if_neg (by rw [nI_iff (by omega) (by omega)]; exact c2), if_neg c2]
theorem C_claimTo {kf : KF} {σ : IM} {ρ : RM} {c : Nat} {f : Nat → Nat} {x : Nat} (h : CR σ c f) (hI : Inv f) (hx : x < 9) : X1_claimTo kf σ ρ c (nI x) = some (nI (clN f (sdN f) x)) := by
  have h2 := hI.2.1
  have hs := sdN_le f
  have ia := hI.2.2.2.2.1 (2 * sdN f) (by omega)
  have ib := hI.2.2.2.2.1 (2 * sdN f + 1) (by omega)
  have hh := (hI.2.2.2.2.2 (sdN f) (by omega)).2
  have a := h.at (p := 2 * sdN f) (by omega)
  have b := h.at (p := 2 * sdN f + 1) (by omega)
  unfold InvP at ia ib
  rw [show 20 + 4 * (2 * sdN f) = 20 + 8 * sdN f by omega, show 23 + 4 * (2 * sdN f) = 23 + 8 * sdN f by omega] at ia
  rw [show 20 + 4 * (2 * sdN f + 1) = 24 + 8 * sdN f by omega, show 23 + 4 * (2 * sdN f + 1) = 27 + 8 * sdN f by omega] at ib
  rw [show 20 + 4 * (2 * sdN f) = 20 + 8 * sdN f by omega] at a
  rw [show 20 + 4 * (2 * sdN f + 1) = 24 + 8 * sdN f by omega] at b
  have w1 := wayN_lt _ ia.1 _ hx
  have w2 := wayN_lt _ ib.1 _ hx
  unfold X1_claimTo
  rw [C_receivers h h2, bd1_s, R_2s, bd_e, nI_1, bd_e, rdN (by omega) (by omega), b, C_way _ ib.1 _ hx, bd1_s, rdN (by omega) (by omega), a, C_way _ ia.1 _ hx, bd1_s, bd_e, C_leftOneOf h hs ia.2.2.2.2 ib.2.2.2.2, bd1_s, bd1_s, rdN (by omega) (by omega), h.habit (by omega)]
  have e : ∀ a, a < 5 → ∀ b, b < 5 → ((nI b - nI a = 0) = (a = b)) ∧ ((nI b - nI a ≤ 0) = (b ≤ a)) := by
    intro a ha b hb
    have : ∀ a, a < 5 → ∀ b, b < 5 → ((nI b - nI a = 0) ↔ (a = b)) ∧ ((nI b - nI a ≤ 0) ↔ (b ≤ a)) := by decide +kernel
    exact ⟨propext (this a ha b hb).1, propext (this a ha b hb).2⟩
  obtain ⟨e1, e2⟩ := e _ w1 _ w2
  unfold clN
  by_cases c1 : wayN (f (20 + 8 * sdN f)) x = wayN (f (24 + 8 * sdN f)) x
  · rw [if_pos (show nI _ - nI _ = 0 by rw [e1]; exact c1), if_neg (show ¬ wayN (f (20 + 8 * sdN f)) x < wayN (f (24 + 8 * sdN f)) x by omega), if_neg (show ¬ wayN (f (24 + 8 * sdN f)) x < wayN (f (20 + 8 * sdN f)) x by omega)]
    simp only [lit32]
    by_cases c2 : f (37 + 3 * sdN f) = 0
    · rw [if_pos (by rw [c2]), if_pos c2]
    · rw [if_neg (by rw [nI_iff (by omega) (by omega)]; exact c2), if_neg c2]
      by_cases c3 : f (37 + 3 * sdN f) = 1
      · rw [if_pos (by rw [c3]), if_pos c3]
      · rw [if_neg (by rw [nI_iff (by omega) (by omega)]; exact c3), if_neg c3]
        by_cases c4 : f (37 + 3 * sdN f) = 2
        · rw [if_pos (by rw [c4]), if_pos c4]
        · rw [if_neg (by rw [nI_iff (by omega) (by omega)]; exact c4), if_neg c4]
  · rw [if_neg (show ¬ nI _ - nI _ = 0 by rw [e1]; exact c1)]
    by_cases c2 : wayN (f (24 + 8 * sdN f)) x < wayN (f (20 + 8 * sdN f)) x
    · rw [if_pos (show nI _ - nI _ ≤ 0 by rw [e2]; omega), if_neg (show ¬ wayN (f (20 + 8 * sdN f)) x < wayN (f (24 + 8 * sdN f)) x by omega), if_pos c2]
    · rw [if_neg (show ¬ nI _ - nI _ ≤ 0 by rw [e2]; omega), if_pos (show wayN (f (20 + 8 * sdN f)) x < wayN (f (24 + 8 * sdN f)) x by omega)]
theorem C_takerBy {kf : KF} {σ : IM} {ρ : RM} {c : Nat} {f : Nat → Nat} {z : Nat} (h : CR σ c f) (h2 : f 2 < 4) (hz : z < 10) : X1_takerBy kf σ ρ c (nI z) = some (nI (if z = 8 then 2 * sdN f else z)) := by
  unfold X1_takerBy
  rw [C_receivers h h2, bd1_s, R_2s]
  simp only [lit32]
  by_cases e : z = 8
  · rw [if_pos (by rw [e]), if_pos e]
  · rw [if_neg (by rw [nI_iff (by omega) (by omega)]; exact e), if_neg e]
/-- how tired he is of whom it is, ahead of the running -/
theorem trN_p {f : Nat → Nat} {k c p : Nat} (h2 : f 2 < 4) (hp : p = 2 * sdN f ∨ p = 2 * sdN f + 1) : trN f k c (22 + 4 * p) = if bothN f (sdN f) (faN f k c) then min 99 (f (22 + 4 * p) + 3) else f (22 + 4 * p) := by
  have hs : sdN f = 1 - f 2 / 2 := rfl
  unfold trN
  split
  · rcases hp with rfl | rfl
    · rw [tireN_o (by omega)]
      unfold tireN
      rw [fup_s, fup_o (by omega), fup_o (by omega)]
    · unfold tireN
      rw [fup_s, fup_o (by omega), fup_o (by omega), fup_o (by omega)]
  · rw [tireN_o (by omega), fup_o (by omega)]
theorem C_isMissed {kf : KF} {σ : IM} {ρ : RM} {c : Nat} {f : Nat → Nat} {k x : Nat} (h : CR σ c f) (hI : Inv f) (hx : faN f k x < 9) (ht : tiN f k x < 8) : X1_isMissed kf σ ρ c (nI (clN f (sdN f) (faN f k x))) (nI (faN f k x)) (nI (tiN f k x)) = some (nI (ptB f k x)) := by
  have h2 := hI.2.1
  have hs := sdN_le f
  obtain ⟨z1, z2, z3, z4, z5⟩ := hI.sd hs
  obtain ⟨q1, q2, q3⟩ := clN_who (x := faN f k x) hs z1 z2 z3 z4 z5 hx
  have hw : whN f k x = (if clN f (sdN f) (faN f k x) = 8 then 2 * sdN f else clN f (sdN f) (faN f k x)) := q1
  unfold X1_isMissed
  rw [C_takerBy h h2 (by omega), bd1_s]
  simp only [lit32]
  by_cases c9 : clN f (sdN f) (faN f k x) = 9
  · rw [if_pos (by rw [c9])]
    have : ptN f k x := ptN_iff.mpr (Or.inl (by rw [hw, if_neg (by omega), c9]))
    rw [show ptB f k x = 1 from this]
  · rw [if_neg (by rw [nI_iff (by omega) (by omega)]; exact c9), ← hw]
    have hp : whN f k x = 2 * sdN f ∨ whN f k x = 2 * sdN f + 1 := by
      rw [hw]
      split <;> omega
    obtain ⟨p, ep⟩ : ∃ p, whN f k x = p := ⟨_, rfl⟩
    rw [ep] at hp hw ⊢
    have hp4 : p < 4 := by omega
    have ip := hI.2.2.2.2.1 p hp4
    have tp := trN_p (k := k) (c := x) h2 hp
    have fin : ∀ ti, ti = trN f k x (22 + 4 * p) → ti ≤ 99 → X1_isMissed_b45 kf σ ρ c (nI (faN f k x)) (nI (tiN f k x)) (nI p) (nI ti) = some (nI (ptB f k x)) := by
      intro ti e1 e2
      unfold X1_isMissed_b45
      rw [rdN hp4 (by omega), h.at hp4, C_way _ ip.1 _ hx, bd1_s, C_stepsIn h hp4 ip.2.2.1 ht e2, bd1_s]
      have w1 := wayN_lt _ ip.1 _ hx
      have s1 : stepsN (tiN f k x) (f (21 + 4 * p)) ti < 29 := stepsN_lt ht ip.2.2.1
      by_cases cs : wayN (f (20 + 4 * p)) (faN f k x) ≤ stepsN (tiN f k x) (f (21 + 4 * p)) ti
      · rw [if_pos ((nI_leI (by omega) (by omega)).mpr cs), ptB_0]
        · rfl
        · rw [ptN_iff, ep, ← e1]
          omega
      · rw [if_neg (fun q => cs ((nI_leI (by omega) (by omega)).mp q))]
        have : ptN f k x := by
          rw [ptN_iff, ep, ← e1]
          omega
        rw [show ptB f k x = 1 from this]
        rfl
    by_cases c8 : clN f (sdN f) (faN f k x) = 8
    · rw [if_pos (by rw [c8]), rdN hp4 (by omega), h.tired hp4, nI_add]
      have e3 : (if nI (f (22 + 4 * p) + 3) < nI 99 then nI (f (22 + 4 * p) + 3) else nI 99) = nI (min 99 (f (22 + 4 * p) + 3)) := by
        have := ip.2.2.2.1
        by_cases q : f (22 + 4 * p) + 3 < 99
        · rw [if_pos ((nI_ltI (by omega) (by omega)).mpr q), Nat.min_eq_right (by omega)]
        · rw [if_neg (fun z => q ((nI_ltI (by omega) (by omega)).mp z)), Nat.min_eq_left (by omega)]
      rw [e3, bd_e]
      refine fin _ ?_ (by omega)
      rw [tp, if_pos (q2.mpr c8)]
    · rw [if_neg (by rw [nI_iff (by omega) (by omega)]; exact c8), rdN hp4 (by omega), h.tired hp4]
      refine fin _ ?_ ip.2.2.2.1
      rw [tp, if_neg (fun q => c8 (q2.mp q))]
