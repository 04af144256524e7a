/-! the calls of the face, one by one: class and reference answer alike -/
def Now (σ : IM) (ρ : RM) (kf : KF) (μ : IM) (f : Nat → Nat) : Prop := Inv f ∧ (f 1 ≤ 999 ∧ f 38 ≤ 99 ∧ f 41 ≤ 99) ∧ CR σ 1 f ∧ SR ρ kf 1 f ∧ RA (μ 1) f
theorem rng (x : Int32) (n : Nat) (hn : n < 1000) : (∃ j, j < n ∧ x = nI j ∧ X11_isBelow x (nI n) = some 1 ∧ X12_isIn x 0 (nI n - 1) = some 1) ∨ (X11_isBelow x (nI n) = some 0 ∧ X12_isIn x 0 (nI n - 1) = some 0 ∧ ∀ j, j < n → x ≠ nI j) := by
  have hm : (nI n - 1).toInt = (n : Int) - 1 := pk_sub_toInt (a := n) (b := 1) (by omega) (by omega)
  rcases pk_ix x (n := n) (by omega) with h | h | ⟨j, hj, rfl⟩
  · refine Or.inr ⟨?_, ?_, fun j hj e => ?_⟩
    · unfold X11_isBelow
      rw [if_pos h]
    · unfold X12_isIn
      rw [if_pos h]
    · rw [e] at h
      exact nI_pos (by omega) h
  · have h0 : ¬ x < 0 := by
      rw [Int32.lt_iff_toInt_lt]
      rw [Int32.le_iff_toInt_le, nI_toInt (by omega)] at h
      have : (0 : Int32).toInt = 0 := rfl
      omega
    refine Or.inr ⟨?_, ?_, fun j hj e => ?_⟩
    · unfold X11_isBelow
      rw [if_neg h0, if_pos h]
    · unfold X12_isIn
      rw [if_neg h0, if_pos]
      rw [Int32.lt_iff_toInt_lt, hm]
      rw [Int32.le_iff_toInt_le, nI_toInt (by omega)] at h
      omega
    · rw [e] at h
      have := (nI_leI (by omega) (by omega)).mp h
      omega
  · refine Or.inl ⟨j, hj, rfl, ?_, ?_⟩
    · rw [C_isBelow (by omega) (by omega), if_pos hj]
    · unfold X12_isIn
      rw [if_neg (nI_pos (by omega)), if_neg]
      rw [Int32.lt_iff_toInt_lt, hm, nI_toInt (by omega)]
      omega
theorem bz1 {β : Type} {k : Option β} : bz 1 k = k := rfl
theorem bz0 {β : Type} {k : Option β} : bz 0 k = k := rfl
/-- a stroke's number, or none -/
theorem knows {σ : IM} {ρ : RM} {kf : KF} {μ : IM} {f : Nat → Nat} (h : Now σ ρ kf μ f) (x : Int32) : (∃ k, k < f 0 ∧ x = nI k ∧ X1_knows kf σ ρ 1 x = some 1 ∧ X12_isStroke μ x = some 1) ∨ (X1_knows kf σ ρ 1 x = some 0 ∧ X12_isStroke μ x = some 0) := by
  have hN := h.1.1
  have a0 := h.2.2.2.2.1 0 (by omega) (by omega)
  have k0 := h.2.2.1.known
  have e1 : ∀ b, (b = 0 ∨ b = 1) → X11_isBelow x (nI (f 0)) = some b → X1_knows kf σ ρ 1 x = some b := by
    intro b hb e
    unfold X1_knows
    rw [k0, e, bd1_s]
    rcases hb with rfl | rfl <;> rfl
  have e2 : ∀ b, (b = 0 ∨ b = 1) → X12_isIn x 0 (nI (f 0) - 1) = some b → X12_isStroke μ x = some b := by
    intro b hb e
    unfold X12_isStroke
    rw [show (0 : Int32) = nI 0 from rfl, rdN (by omega) (by omega), a0, show nI 0 = (0 : Int32) from rfl, e, bd1_s]
    rcases hb with rfl | rfl <;> rfl
  rcases rng x (f 0) (by omega) with ⟨k, hk, rfl, q1, q2⟩ | ⟨q1, q2, -⟩
  · exact Or.inl ⟨k, hk, rfl, e1 1 (Or.inr rfl) q1, e2 1 (Or.inr rfl) q2⟩
  · exact Or.inr ⟨e1 0 (Or.inl rfl) q1, e2 0 (Or.inl rfl) q2⟩
theorem isPl (x : Int32) : (∃ p, p < 4 ∧ x = nI p ∧ X11_isBelow x 4 = some 1 ∧ X12_isPlayer x = some 1) ∨ (X11_isBelow x 4 = some 0 ∧ X12_isPlayer x = some 0) := by
  rcases rng x 4 (by omega) with ⟨k, hk, rfl, q1, q2⟩ | ⟨q1, q2, -⟩
  · refine Or.inl ⟨k, hk, rfl, q1, ?_⟩
    unfold X12_isPlayer
    rw [show (3 : Int32) = nI 4 - 1 from rfl, q2]
    rfl
  · refine Or.inr ⟨q1, ?_⟩
    unfold X12_isPlayer
    rw [show (3 : Int32) = nI 4 - 1 from rfl, q2]
    rfl
theorem isCe (x : Int32) : (∃ p, p < 9 ∧ x = nI p ∧ X11_isBelow x 9 = some 1 ∧ X12_isCell x = some 1) ∨ (X11_isBelow x 9 = some 0 ∧ X12_isCell x = some 0) := by
  rcases rng x 9 (by omega) with ⟨k, hk, rfl, q1, q2⟩ | ⟨q1, q2, -⟩
  · refine Or.inl ⟨k, hk, rfl, q1, ?_⟩
    unfold X12_isCell
    rw [show (8 : Int32) = nI 9 - 1 from rfl, q2]
    rfl
  · refine Or.inr ⟨q1, ?_⟩
    unfold X12_isCell
    rw [show (8 : Int32) = nI 9 - 1 from rfl, q2]
    rfl
theorem isHi {σ : IM} {ρ : RM} {kf : KF} {μ : IM} {f : Nat → Nat} (h : Now σ ρ kf μ f) (x y : Int32) : (∃ k c, k < f 0 ∧ c < 9 ∧ x = nI k ∧ y = nI c ∧ X1_isHit kf σ ρ 1 x y = some 1 ∧ X12_isHit μ x y = some 1) ∨ (X1_isHit kf σ ρ 1 x y = some 0 ∧ X12_isHit μ x y = some 0) := by
  unfold X1_isHit X12_isHit
  rcases knows h x with ⟨k, hk, rfl, q1, q2⟩ | ⟨q1, q2⟩
  · rw [q1, q2, bd1_s, bd1_s, if_neg (by decide), if_neg (by decide)]
    rcases isCe y with ⟨c, hc, rfl, w1, w2⟩ | ⟨w1, w2⟩
    · refine Or.inl ⟨k, c, hk, hc, rfl, rfl, ?_, ?_⟩
      · rw [w1]
        rfl
      · rw [w2]
        rfl
    · refine Or.inr ⟨?_, ?_⟩
      · rw [w1]
        rfl
      · rw [w2]
        rfl
  · refine Or.inr ⟨?_, ?_⟩
    · rw [q1]
      rfl
    · rw [q2]
      rfl
theorem V_ki {kf : KF} {q k fg : Nat} (h : kf q = some (k, nI fg)) (hk : k < 8) : V_kind kf q = some (nI k) := by
  have e : ∀ k, k < 8 → ∀ x : Int32, Vd_kind k x = some (nI k) := by
    intro k hk x
    rcases (show k = 0 ∨ k = 1 ∨ k = 2 ∨ k = 3 ∨ k = 4 ∨ k = 5 ∨ k = 6 ∨ k = 7 by omega) with rfl | rfl | rfl | rfl | rfl | rfl | rfl | rfl <;> rfl
  unfold V_kind
  rw [h]
  exact e k hk _
/-- one of some small numbers -/
theorem sm5 {P : Nat → Prop} (h0 : P 0) (h1 : P 1) (h2 : P 2) (h3 : P 3) (h4 : P 4) {k : Nat} (hk : k < 5) : P k := by
  rcases (show k = 0 ∨ k = 1 ∨ k = 2 ∨ k = 3 ∨ k = 4 by omega) with rfl | rfl | rfl | rfl | rfl <;> assumption
theorem n10 : ¬ (1 : Int32) = 0 := by decide
theorem E_stroke {σ : IM} {ρ : RM} {kf : KF} {μ : IM} {f : Nat → Nat} (h : Now σ ρ kf μ f) (a1 a2 : Int32) : ∃ r, X11_stroke kf σ ρ a1 a2 = some r ∧ X12_stroke μ a1 a2 = some r := by
  unfold X11_stroke X12_stroke
  have hN := h.1.1
  rcases knows h a1 with ⟨k, hk, rfl, q1, q2⟩ | ⟨q1, q2⟩
  · rw [q1, q2, bd1_s, bd1_s, if_neg n10, if_neg n10]
    obtain ⟨q, e1, e2⟩ := h.2.2.2.1 k hk
    obtain ⟨i1, i2⟩ := h.1.2.2.2.1 k hk
    have a4 := h.2.2.2.2.1 (4 + 2 * k) (by omega) (by omega)
    have a5 := h.2.2.2.2.1 (5 + 2 * k) (by omega) (by omega)
    rw [rqN (by omega) (by omega), e1, bd1_s]
    rcases rng a2 5 (by omega) with ⟨w, hw, rfl, w1, w2⟩ | ⟨w1, w2, w3⟩
    · rw [show X12_isIn (nI w) 0 4 = some 1 from w2, bd1_s, if_neg n10, R_ofS0, bd1_s, rdN (by omega) (by omega), a4, R_ofS1, bd1_s, rdN (by omega) (by omega), a5]
      have t0 : V_timeTo kf q 0 = _ := V_time (x := 0) e2 i1 i2 (by omega)
      have t8 : V_timeTo kf q 8 = _ := V_time (x := 8) e2 i1 i2 (by omega)
      have r0 : X12_timeBy _ _ 0 = _ := R_timeBy _ i1 _ i2 0 (by omega)
      have r8 : X12_timeBy _ _ 8 = _ := R_timeBy _ i1 _ i2 8 (by omega)
      unfold X12_stroke_b88
      rw [V_ki e2 i1, e2, V_eff e2 i1 i2, R_tiresBy _ i1 _ i2, t0, t8, r0, r8]
      rcases (show w = 0 ∨ w = 1 ∨ w = 2 ∨ w = 3 ∨ w = 4 by omega) with rfl | rfl | rfl | rfl | rfl <;> exact ⟨_, rfl, rfl⟩
    · refine ⟨-1, ?_, ?_⟩
      · rw [if_neg (show ¬ a2 = 0 from w3 0 (by omega)), if_neg (show ¬ a2 = 1 from w3 1 (by omega)), if_neg (show ¬ a2 = 2 from w3 2 (by omega)), if_neg (show ¬ a2 = 3 from w3 3 (by omega)), if_neg (show ¬ a2 = 4 from w3 4 (by omega))]
      · rw [show X12_isIn a2 0 4 = some 0 from w2]
        rfl
  · exact ⟨-1, by rw [q1]; rfl, by rw [q2]; rfl⟩
theorem C_takerOf {kf : KF} {σ : IM} {ρ : RM} {c : Nat} {f : Nat → Nat} {x : Nat} (h : CR σ c f) (hI : Inv f) (hx : x < 9) : X1_takerOf kf σ ρ c (nI x) = some (nI (whoN f (sdN f) x)) := by
  have hs := sdN_le f
  obtain ⟨z1, z2, z3, z4, z5⟩ := hI.sd hs
  obtain ⟨q1, q2, q3⟩ := clN_who (x := x) hs z1 z2 z3 z4 z5 hx
  unfold X1_takerOf
  rw [C_claimTo h hI hx, bd1_s, C_takerBy h hI.2.1 (by omega), ← q1]
  rfl
theorem R_otherSide {μ : IM} {f : Nat → Nat} (h : RA (μ 1) f) (h2 : f 2 < 4) : X12_otherSide μ = some (nI (sdN f)) := by
  unfold X12_otherSide
  rw [show (2 : Int32) = nI 2 from rfl, rdN (by omega) (by omega), h.1 2 (by omega) (by omega), R_sideOf h2, bd1_s, show (1 : Int32) = nI 1 from rfl, nI_sub (by omega)]
  rfl
theorem R_whoseNow {μ : IM} {f : Nat → Nat} {k c : Nat} (h : RA (μ 1) f) (hI : Inv f) (hk : k < f 0) (hc : c < 9) : X12_whoseNow μ (nI k) (nI c) = some (nI (whN f k c)) := by
  obtain ⟨i1, i2⟩ := hI.2.2.2.1 k hk
  have hN := hI.1
  have hs := sdN_le f
  have hx : faN f k c < 9 := landN_lt _ i1 _ hI.2.2.1 _ hc
  unfold X12_whoseNow
  rw [R_otherSide h hI.2.1, bd1_s, R_fallsIn h (by omega) i1 hI.2.2.1 hc, bd1_s, R_whoseIn h (by omega) hI hx]
  rfl
theorem E_whose {σ : IM} {ρ : RM} {kf : KF} {μ : IM} {f : Nat → Nat} (h : Now σ ρ kf μ f) (a1 a2 : Int32) : ∃ r, X11_whose kf σ ρ a1 a2 = some r ∧ X12_whose μ a1 a2 = some r := by
  unfold X11_whose X12_whose
  rcases isHi h a1 a2 with ⟨k, c, hk, hc, rfl, rfl, q1, q2⟩ | ⟨q1, q2⟩
  · have hI := h.1
    obtain ⟨i1, i2⟩ := hI.2.2.2.1 k hk
    have hx : faN f k c < 9 := landN_lt _ i1 _ hI.2.2.1 _ hc
    refine ⟨nI (whN f k c), ?_, ?_⟩
    · rw [q1, bd1_s, if_neg (by decide), C_landing h.2.2.1 h.2.2.2.1 hI hk hc, bd1_s, C_takerOf h.2.2.1 hI hx]
      rfl
    · rw [q2, bd1_s, if_neg (by decide), R_whoseNow h.2.2.2.2 hI hk hc]
      rfl
  · exact ⟨-1, by rw [q1]; rfl, by rw [q2]; rfl⟩
theorem E_falls {σ : IM} {ρ : RM} {kf : KF} {μ : IM} {f : Nat → Nat} (h : Now σ ρ kf μ f) (a1 a2 : Int32) : ∃ r, X11_falls kf σ ρ a1 a2 = some r ∧ X12_falls μ a1 a2 = some r := by
  unfold X11_falls X12_falls
  rcases isHi h a1 a2 with ⟨k, c, hk, hc, rfl, rfl, q1, q2⟩ | ⟨q1, q2⟩
  · have hI := h.1
    have hN := hI.1
    obtain ⟨i1, i2⟩ := hI.2.2.2.1 k hk
    refine ⟨nI (faN f k c), ?_, ?_⟩
    · rw [q1, bd1_s, if_neg (by decide), C_landing h.2.2.1 h.2.2.2.1 hI hk hc]
      rfl
    · rw [q2, bd1_s, if_neg (by decide), R_fallsIn h.2.2.2.2 (by omega) i1 hI.2.2.1 hc]
      rfl
  · exact ⟨-1, by rw [q1]; rfl, by rw [q2]; rfl⟩

theorem E_player {σ : IM} {ρ : RM} {kf : KF} {μ : IM} {f : Nat → Nat} (h : Now σ ρ kf μ f) (a1 a2 : Int32) : ∃ r, X11_player kf σ ρ a1 a2 = some r ∧ X12_player μ a1 a2 = some r := by
  unfold X11_player X12_player
  have hC := h.2.2.1
  have hA := h.2.2.2.2
  rcases isPl a1 with ⟨p, hp, rfl, q1, q2⟩ | ⟨q1, q2⟩
  · have ip := h.1.2.2.2.2.1 p hp
    rw [q1, q2, bd1_s, bd1_s, if_neg n10, if_neg n10]
    simp only [rdN hp (show 4 < 2147483648 by omega), hC.at hp, hC.pace hp, hC.tired hp, hC.left hp]
    rw [show X1_stepsIn kf σ ρ 1 1 (nI p) (nI (f (22 + 4 * p))) = _ from C_stepsIn (t := 1) hC hp ip.2.2.1 (by omega) ip.2.2.2.1]
    rcases rng a2 5 (by omega) with ⟨w, hw, rfl, w1, w2⟩ | ⟨w1, w2, w3⟩
    · rw [show X12_isIn (nI w) 0 4 = some 1 from w2]
      simp only [bd1_s]
      rw [if_neg n10, show X12_stepsIn μ 1 (nI p) 1 = _ from R_stepsIn (t := 1) hA hp ip (by omega)]
      have e : X12_ofP (nI p) (nI w) = some (nI (20 + 4 * p + w)) := by simp only [X12_ofP, lit32, nI_add, pk_mul]
      rw [e, bd1_s, bd1_s, rdN (by omega) (by omega), hA.1 _ (by omega) (by omega)]
      rcases (show w = 0 ∨ w = 1 ∨ w = 2 ∨ w = 3 ∨ w = 4 by omega) with rfl | rfl | rfl | rfl | rfl
      · exact ⟨_, rfl, rfl⟩
      · exact ⟨_, rfl, by rw [show 21 + 4 * p = 20 + 4 * p + 1 by omega]; rfl⟩
      · exact ⟨_, rfl, by rw [show 22 + 4 * p = 20 + 4 * p + 2 by omega]; rfl⟩
      · exact ⟨_, rfl, by rw [show 23 + 4 * p = 20 + 4 * p + 3 by omega]; rfl⟩
      · exact ⟨_, rfl, rfl⟩
    · refine ⟨-1, ?_, ?_⟩
      · rw [if_neg (show ¬ a2 = 0 from w3 0 (by omega)), if_neg (show ¬ a2 = 1 from w3 1 (by omega)), if_neg (show ¬ a2 = 2 from w3 2 (by omega)), if_neg (show ¬ a2 = 3 from w3 3 (by omega)), if_neg (show ¬ a2 = 4 from w3 4 (by omega))]
      · rw [show X12_isIn a2 0 4 = some 0 from w2]
        rfl
  · exact ⟨-1, by rw [q1]; rfl, by rw [q2]; rfl⟩
theorem outN {σ : IM} {ρ : RM} {kf : KF} {μ : IM} {f : Nat → Nat} (h : Now σ ρ kf μ f) {s : Nat} (hs : s < 2) : ∃ r, X1_outOfPlace kf σ ρ 1 (nI s) = some r ∧ X12_outOfPlace μ (nI s) = some r := by
  have hC := h.2.2.1
  have hA := h.2.2.2.2
  have h2 := h.1.2.1
  have hP := h.1.2.2.2.2.1
  have hS := h.1.2.2.2.2.2
  have key : ∀ p, p < 4 → p / 2 = s → ∃ r, X1_outOfPlace_b20 kf σ ρ 1 (nI p) = some r ∧ X12_outOfPlace_b25 μ (nI s) (nI p) = some r := by
    intro p hp hps
    have hm : mateN p < 4 := by
      unfold mateN
      split <;> omega
    have fo := (hS s hs).1
    have pl := placeN_lt _ (show f (36 + 3 * s) < 2 by omega) _ (hP p hp).1
    refine ⟨nI (wayN (f (20 + 4 * mateN p)) (placeN (f (36 + 3 * s)) (f (20 + 4 * p)))), ?_, ?_⟩
    · unfold X1_outOfPlace_b20
      rw [C_partnerOf p hp, bd1_s, rdN hm (by omega), hC.at hm, C_placeBy hC hp (hP p hp).1 (by rw [hps]; exact fo), bd1_s, hps, C_way _ (hP _ hm).1 _ pl]
      rfl
    · unfold X12_outOfPlace_b25
      have o1 : ∀ p, X12_ofP (nI p) 0 = some (nI (20 + 4 * p)) := fun p => by simp only [X12_ofP, lit32, nI_add, pk_mul, Nat.add_zero]
      have o2 : X12_ofSide (nI s) 0 = some (nI (36 + 3 * s)) := by simp only [X12_ofSide, lit32, nI_add, pk_mul, Nat.add_zero]
      rw [R_partner p hp, bd1_s, o1, bd1_s, rdN (by omega) (by omega), hA.1 _ (by omega) (by omega), o2, bd1_s, rdN (by omega) (by omega), hA.1 _ (by omega) (by omega), o1, bd1_s, rdN (by omega) (by omega), hA.1 _ (by omega) (by omega), R_placeFor _ (by omega) _ (hP p hp).1, bd1_s, R_wayOf _ (hP _ hm).1 _ pl]
      rfl
  unfold X1_outOfPlace X12_outOfPlace
  rw [hC.has, show (nI (f 2) : Int32) / 2 = nI (f 2 / 2) from nI_div (d := 2) (by omega) (by omega) (by omega), show rd (μ 1) 42 2 = rd (μ 1) 42 (nI 2) from rfl, rdN (by omega) (by omega), rdN (by omega) (by omega), hA.1 2 (by omega) (by omega), R_sideOf h2, bd1_s]
  by_cases e : f 2 / 2 = s
  · rw [if_pos (by rw [e]), if_pos (by rw [e])]
    exact key _ h2 e
  · have ne : ¬ nI (f 2 / 2) = nI s := by
      rw [nI_iff (by omega) (by omega)]
      exact e
    rw [if_neg ne, if_neg ne, R_2s]
    exact key _ (by omega) (by omega)
theorem E_side {σ : IM} {ρ : RM} {kf : KF} {μ : IM} {f : Nat → Nat} (h : Now σ ρ kf μ f) (a1 a2 : Int32) : ∃ r, X11_side kf σ ρ a1 a2 = some r ∧ X12_side μ a1 a2 = some r := by
  unfold X11_side X12_side
  have hC := h.2.2.1
  have hA := h.2.2.2.2
  rcases rng a1 2 (by omega) with ⟨s, hs, rfl, q1, q2⟩ | ⟨q1, q2, -⟩
  · rw [show X11_isBelow (nI s) 2 = some 1 from q1, show X12_isIn (nI s) 0 1 = some 1 from q2, bd1_s, bd1_s, if_neg n10, if_neg n10]
    simp only [rdN hs (show 2 < 2147483648 by omega), hC.form hs, hC.habit hs, hC.points hs]
    obtain ⟨r, o1, o2⟩ := outN h hs
    rw [o1, o2]
    rcases rng a2 4 (by omega) with ⟨w, hw, rfl, w1, w2⟩ | ⟨w1, w2, w3⟩
    · have e : X12_ofSide (nI s) (nI w) = some (nI (36 + 3 * s + w)) := by simp only [X12_ofSide, lit32, nI_add, pk_mul]
      rw [show X12_isIn (nI w) 0 3 = some 1 from w2]
      simp only [bd1_s]
      rw [if_neg n10, e, bd1_s]
      rcases (show w = 3 ∨ w = 0 ∨ w = 1 ∨ w = 2 by omega) with rfl | rfl | rfl | rfl
      · exact ⟨_, rfl, rfl⟩
      · exact ⟨_, rfl, by rw [rdN (by omega) (by omega), hA.1 _ (by omega) (by omega)]; rfl⟩
      · exact ⟨_, rfl, by rw [rdN (by omega) (by omega), hA.1 _ (by omega) (by omega), show 37 + 3 * s = 36 + 3 * s + 1 by omega]; rfl⟩
      · exact ⟨_, rfl, by rw [rdN (by omega) (by omega), hA.1 _ (by omega) (by omega), show 38 + 3 * s = 36 + 3 * s + 2 by omega]; rfl⟩
    · refine ⟨-1, ?_, ?_⟩
      · rw [if_neg (show ¬ a2 = 0 from w3 0 (by omega)), if_neg (show ¬ a2 = 1 from w3 1 (by omega)), if_neg (show ¬ a2 = 2 from w3 2 (by omega)), if_neg (show ¬ a2 = 3 from w3 3 (by omega))]
      · rw [show X12_isIn a2 0 3 = some 0 from w2]
        rfl
  · exact ⟨-1, by rw [show X11_isBelow a1 2 = some 0 from q1]; rfl, by rw [show X12_isIn a1 0 1 = some 0 from q2]; rfl⟩
