/-! calls that change the court -/
theorem Inv.up {f : Nat → Nat} (h : Inv f) {i v : Nat} (p s : Nat) (c : i = 1 ∨ (i = 2 ∧ v < 4) ∨ (i = 3 ∧ v < 3) ∨ (p < 4 ∧ ((i = 20 + 4 * p ∧ v < 9) ∨ (i = 21 + 4 * p ∧ 1 ≤ v ∧ v ≤ 4) ∨ (i = 22 + 4 * p ∧ v ≤ 99) ∨ (i = 23 + 4 * p ∧ v ≤ 1))) ∨ (s < 2 ∧ ((i = 36 + 3 * s ∧ v ≤ 1) ∨ (i = 37 + 3 * s ∧ v ≤ 3) ∨ i = 38 + 3 * s))) : Inv (fup f i v) := by
  obtain ⟨h0, h2, h3, h4, hP, hS⟩ := h
  have e0 : fup f i v 0 = f 0 := fup_o (by omega)
  refine ⟨by rw [e0]; exact h0, ?_, ?_, ?_, ?_, ?_⟩
  · unfold fup
    split <;> omega
  · unfold fup
    split <;> omega
  · intro k hk
    rw [e0] at hk
    rw [fup_o (by omega), fup_o (by omega)]
    exact h4 k hk
  · intro q hq
    obtain ⟨a, b, b', c', d⟩ := hP q hq
    unfold InvP fup
    refine ⟨?_, ?_, ?_, ?_, ?_⟩ <;> (split <;> omega)
  · intro t ht
    obtain ⟨a, b⟩ := hS t ht
    unfold fup
    refine ⟨?_, ?_⟩ <;> (split <;> omega)
theorem SR.up {ρ : RM} {kf : KF} {c : Nat} {f : Nat → Nat} (h : SR ρ kf c f) (hN : f 0 ≤ 8) {i v : Nat} (hi : i ≠ 0) (h2 : i < 4 ∨ 20 ≤ i) : SR ρ kf c (fup f i v) := by
  intro k hk
  rw [fup_o (Ne.symm hi)] at hk
  rw [fup_o (by omega), fup_o (by omega)]
  exact h k hk
theorem RA.w3 {σ : IM} {r : Nat} {f : Nat → Nat} (h : RA (σ r) f) {v : Nat} : RA (up2 σ r 3 (nI v - 1) r) (fup f 3 v) := by
  rw [up2_i]
  refine ⟨fun j hj h3 => ?_, ?_⟩
  · unfold upd fup
    rw [if_neg h3, if_neg h3]
    exact h.1 j hj h3
  · unfold upd fup
    rw [if_pos rfl, if_pos rfl]
theorem KC.rf {σ : IM} {ρ : RM} : KC σ ρ σ ρ := ⟨fun _ _ _ => rfl, rfl, fun _ _ _ => rfl⟩
theorem KR.rf {μ : IM} : KR μ μ := ⟨rfl, fun _ _ => rfl, rfl⟩
theorem KC.up {σ σ' : IM} {ρ ρ' : RM} (h : KC σ ρ σ' ρ') {i k : Nat} {v : Int32} (h1 : 1 ≤ i) (h2 : i < 19) : KC σ ρ (up2 σ' i k v) ρ' :=
  ⟨fun j l1 l2 => (up2_o (by omega)).trans (h.1 j l1 l2), by rw [up2_o (by omega)]; exact h.2.1, h.2.2⟩
theorem KR.up {μ μ' : IM} (h : KR μ μ') {k : Nat} {v : Int32} : KR μ (up2 μ' 1 k v) :=
  ⟨(up2_o (by omega)).trans h.1, fun j l1 => (up2_o (by omega)).trans (h.2.1 j l1), by rw [up2_o (by omega)]; exact h.2.2⟩
theorem isPc (x : Int32) : (∃ j, 1 ≤ j ∧ j ≤ 4 ∧ x = nI j ∧ ¬ x < 1 ∧ x ≤ 4 ∧ X12_isIn x 1 4 = some 1) ∨ ((x < 1 ∨ (¬ x < 1 ∧ ¬ x ≤ 4)) ∧ X12_isIn x 1 4 = some 0) := by
  by_cases h1 : x < 1
  · refine Or.inr ⟨Or.inl h1, ?_⟩
    unfold X12_isIn
    rw [if_pos h1]
  · by_cases h2 : x ≤ 4
    · have t1 : (1 : Int32).toInt = 1 := rfl
      have t0 : (0 : Int32).toInt = 0 := rfl
      have t4 : (4 : Int32).toInt = 4 := rfl
      have h0 : ¬ x < 0 := by
        rw [Int32.lt_iff_toInt_lt] at h1 ⊢
        omega
      obtain ⟨j, hj, rfl⟩ := nI_of2 (M := 4) (n := 4) rfl h0 h2
      have hj1 : 1 ≤ j := by
        rw [Int32.lt_iff_toInt_lt, nI_toInt (by omega)] at h1
        omega
      refine Or.inl ⟨j, hj1, hj, rfl, h1, h2, ?_⟩
      unfold X12_isIn
      rw [if_neg h1, if_neg (by rw [Int32.lt_iff_toInt_lt, nI_toInt (by omega)]; omega)]
    · refine Or.inr ⟨Or.inr ⟨h1, h2⟩, ?_⟩
      have t4 : (4 : Int32).toInt = 4 := rfl
      unfold X12_isIn
      rw [if_neg h1, if_pos]
      rw [Int32.le_iff_toInt_le] at h2
      rw [Int32.lt_iff_toInt_lt]
      omega
theorem R_ofPn (p w : Nat) : X12_ofP (nI p) (nI w) = some (nI (20 + 4 * p + w)) := by simp only [X12_ofP, lit32, nI_add, pk_mul]
theorem R_ofP0 (p : Nat) : X12_ofP (nI p) 0 = some (nI (20 + 4 * p)) := R_ofPn p 0
theorem R_ofP1 (p : Nat) : X12_ofP (nI p) 1 = some (nI (21 + 4 * p)) := by rw [show (1 : Int32) = nI 1 from rfl, R_ofPn, show 20 + 4 * p + 1 = 21 + 4 * p by omega]
theorem R_ofP2 (p : Nat) : X12_ofP (nI p) 2 = some (nI (22 + 4 * p)) := by rw [show (2 : Int32) = nI 2 from rfl, R_ofPn, show 20 + 4 * p + 2 = 22 + 4 * p by omega]
theorem R_ofP3 (p : Nat) : X12_ofP (nI p) 3 = some (nI (23 + 4 * p)) := by rw [show (3 : Int32) = nI 3 from rfl, R_ofPn, show 20 + 4 * p + 3 = 23 + 4 * p by omega]
theorem R_ofSn (s w : Nat) : X12_ofSide (nI s) (nI w) = some (nI (36 + 3 * s + w)) := by simp only [X12_ofSide, lit32, nI_add, pk_mul]
theorem bdI (f : Nat → Nat) (i v : Nat) (h : f 1 ≤ 999 ∧ f 38 ≤ 99 ∧ f 41 ≤ 99) (hi : i ≠ 1) (h2 : i ≠ 38) (h3 : i ≠ 41) : fup f i v 1 ≤ 999 ∧ fup f i v 38 ≤ 99 ∧ fup f i v 41 ≤ 99 := by
  rw [fup_o (Ne.symm hi), fup_o (Ne.symm h2), fup_o (Ne.symm h3)]
  exact h
theorem E_stands {σ : IM} {ρ : RM} {kf : KF} {μ : IM} (h : All σ ρ kf μ) (a1 a2 a3 : Int32) : Same3 kf (X11_stands kf σ ρ a1 a2 a3) (X12_stands μ a1 a2 a3) := by
  unfold X11_stands X1_standAt X12_stands
  obtain ⟨⟨f, hf⟩, hr⟩ := h
  have h0 : All σ ρ kf μ := ⟨⟨f, hf⟩, hr⟩
  obtain ⟨hI, hB, hC, hS, hA⟩ := hf
  rcases isPl a1 with ⟨p, hp, rfl, q1, q2⟩ | ⟨q1, q2⟩
  · rw [q1, q2, bd1_s, bd1_s, if_neg n10, if_neg n10]
    rcases isCe a2 with ⟨c, hc, rfl, w1, w2⟩ | ⟨w1, w2⟩
    · rw [w1, w2, bd1_s, bd1_s, if_neg n10, if_neg n10]
      rcases isPc a3 with ⟨j, hj1, hj4, rfl, v1, v2, v3⟩ | ⟨v1, v3⟩
      · rw [v3, bd1_s, if_neg v1, if_pos v2, if_neg n10]
        simp (disch := omega) only [bd1_s, bd2_s, bd3_s, bd_e, rdN, wrN, R_ofP0, R_ofP1, R_ofP2, R_ofP3, R_ofSn]
        rw [hC.at hp, hA.1 _ (by omega) (by omega)]
        refine ⟨_, _, _, _, rfl, rfl, ⟨fup (fup f (20 + 4 * p) c) (21 + 4 * p) j, ?_, ?_, ?_, ?_, ?_⟩, hr.keep ((KC.rf.up (by omega) (by omega)).up (by omega) (by omega)) KR.rf.up.up⟩
        · exact (hI.up p 0 (by omega)).up p 0 (by omega)
        · exact bdI _ _ _ (bdI _ _ _ hB (by omega) (by omega) (by omega)) (by omega) (by omega) (by omega)
        · exact (hC.wAt hp).wPace hp
        · exact (hS.up hI.1 (by omega) (by omega)).up (by rw [fup_o (by omega)]; exact hI.1) (by omega) (by omega)
        · exact (hA.w (by omega)).w (by omega)
      · rw [v3, bd1_s]
        refine Same3.no h0 (r := -1) ?_ rfl
        rcases v1 with v1 | ⟨v1, v2⟩
        · rw [if_pos v1]
          rfl
        · rw [if_neg v1, if_neg v2]
          rfl
    · exact Same3.no h0 (r := -1) (by rw [w1]; rfl) (by rw [w2]; rfl)
  · exact Same3.no h0 (r := -1) (by rw [q1]; rfl) (by rw [q2]; rfl)
theorem E_tires {σ : IM} {ρ : RM} {kf : KF} {μ : IM} (h : All σ ρ kf μ) (a1 a2 : Int32) : Same3 kf (X11_tires kf σ ρ a1 a2) (X12_tires μ a1 a2) := by
  unfold X11_tires X1_setTired X12_tires
  obtain ⟨⟨f, hf⟩, hr⟩ := h
  have h0 : All σ ρ kf μ := ⟨⟨f, hf⟩, hr⟩
  obtain ⟨hI, hB, hC, hS, hA⟩ := hf
  rcases isPl a1 with ⟨p, hp, rfl, q1, q2⟩ | ⟨q1, q2⟩
  · rw [q1, q2, bd1_s, bd1_s, if_neg n10, if_neg n10]
    rcases rng a2 100 (by omega) with ⟨c, hc, rfl, w1, w2⟩ | ⟨w1, w2, -⟩
    · rw [show X11_isBelow (nI c) 100 = some 1 from w1, show X12_isIn (nI c) 0 99 = some 1 from w2, bd1_s, bd1_s, if_neg n10, if_neg n10]
      simp (disch := omega) only [bd1_s, bd2_s, bd3_s, bd_e, rdN, wrN, R_ofP0, R_ofP1, R_ofP2, R_ofP3, R_ofSn]
      rw [hC.tired hp, hA.1 _ (by omega) (by omega)]
      refine ⟨_, _, _, _, rfl, rfl, ⟨fup f (22 + 4 * p) c, ?_, ?_, ?_, ?_, ?_⟩, hr.keep (KC.rf.up (by omega) (by omega)) KR.rf.up⟩
      · exact hI.up p 0 (by omega)
      · exact bdI _ _ _ hB (by omega) (by omega) (by omega)
      · exact hC.wTired hp
      · exact hS.up hI.1 (by omega) (by omega)
      · exact hA.w (by omega)
    · exact Same3.no h0 (r := -1) (by rw [show X11_isBelow a2 100 = some 0 from w1]; rfl) (by rw [show X12_isIn a2 0 99 = some 0 from w2]; rfl)
  · exact Same3.no h0 (r := -1) (by rw [q1]; rfl) (by rw [q2]; rfl)
theorem E_hands {σ : IM} {ρ : RM} {kf : KF} {μ : IM} (h : All σ ρ kf μ) (a1 : Int32) : Same3 kf (X11_hands kf σ ρ a1) (X12_hands μ a1) := by
  unfold X11_hands X1_switchHand X12_hands
  obtain ⟨⟨f, hf⟩, hr⟩ := h
  have h0 : All σ ρ kf μ := ⟨⟨f, hf⟩, hr⟩
  obtain ⟨hI, hB, hC, hS, hA⟩ := hf
  rcases isPl a1 with ⟨p, hp, rfl, q1, q2⟩ | ⟨q1, q2⟩
  · have ip := (hI.2.2.2.2.1 p hp).2.2.2.2
    have e1 : (1 : Int32) - nI (f (23 + 4 * p)) = nI (1 - f (23 + 4 * p)) := nI_sub ip
    have e2 : nI (f (23 + 4 * p)) ^^^ 1 = nI (1 - f (23 + 4 * p)) := by
      have : ∀ x, x < 2 → nI x ^^^ 1 = nI (1 - x) := by decide +kernel
      exact this _ (by omega)
    rw [q1, q2, bd1_s, bd1_s, if_neg n10, if_neg n10]
    simp (disch := omega) only [bd1_s, bd2_s, bd3_s, bd_e, rdN, wrN, R_ofP0, R_ofP1, R_ofP2, R_ofP3, R_ofSn]
    rw [hC.left hp, hA.1 _ (by omega) (by omega), e1, e2, up2_ss, up2_ss]
    refine ⟨_, _, _, _, rfl, rfl, ⟨fup f (23 + 4 * p) (1 - f (23 + 4 * p)), ?_, ?_, ?_, ?_, ?_⟩, hr.keep (KC.rf.up (by omega) (by omega)) KR.rf.up⟩
    · exact hI.up p 0 (by omega)
    · exact bdI _ _ _ hB (by omega) (by omega) (by omega)
    · exact hC.wLeft hp
    · exact hS.up hI.1 (by omega) (by omega)
    · exact hA.w (by omega)
  · exact Same3.no h0 (r := -1) (by rw [q1]; rfl) (by rw [q2]; rfl)
/-- FORM or HABIT of a side of a court of ours -/
theorem C_adopt {σ : IM} {ρ : RM} {kf : KF} {c s w v : Nat} {f : Nat → Nat} (hC : CR σ c f) (hs : s < 2) (hw : w < 2) (hv : v < (if w = 0 then 2 else 4)) : X1_adopt kf σ ρ c (nI s) (nI w) (nI v) = some (nI (f (36 + 3 * s + w)), up2 σ (c + 5 + w) s (nI v), ρ) ∧ CR (up2 σ (c + 5 + w) s (nI v)) c (fup f (36 + 3 * s + w) v) := by
  have b1 : X11_isBelow (nI s) 2 = some 1 := by rw [show (2 : Int32) = nI 2 from rfl, C_isBelow (by omega) (by omega), if_pos hs]
  have b2 : X11_isBelow (nI w) 2 = some 1 := by rw [show (2 : Int32) = nI 2 from rfl, C_isBelow (by omega) (by omega), if_pos hw]
  unfold X1_adopt
  rw [b1, bd1_s, if_neg n10, b2, bd1_s, if_neg n10]
  rcases (show w = 0 ∨ w = 1 by omega) with rfl | rfl
  · have e : X1_choices (nI 0) = some (nI 2) := rfl
    rw [if_pos rfl] at hv
    rw [e, bd1_s, C_isBelow (by omega) (by omega), if_pos hv, bd1_s, if_neg n10, if_pos (show nI 0 = 0 from rfl)]
    unfold X1_adopt_b44
    rw [rdN (by omega) (by omega), wrN (by omega) (by omega), hC.form hs]
    exact ⟨rfl, hC.wForm hs⟩
  · have e : X1_choices (nI 1) = some (nI 4) := rfl
    rw [if_neg (by omega)] at hv
    rw [e, bd1_s, C_isBelow (by omega) (by omega), if_pos hv, bd1_s, if_neg n10, if_neg (by decide)]
    unfold X1_adopt_b44
    rw [rdN (by omega) (by omega), wrN (by omega) (by omega), hC.habit hs, show 36 + 3 * s + 1 = 37 + 3 * s by omega]
    exact ⟨rfl, hC.wHabit hs⟩
theorem E_forms {σ : IM} {ρ : RM} {kf : KF} {μ : IM} (h : All σ ρ kf μ) (a1 a2 a3 : Int32) : Same3 kf (X11_forms kf σ ρ a1 a2 a3) (X12_forms μ a1 a2 a3) := by
  unfold X11_forms X12_forms
  obtain ⟨⟨f, hf⟩, hr⟩ := h
  have h0 : All σ ρ kf μ := ⟨⟨f, hf⟩, hr⟩
  obtain ⟨hI, hB, hC, hS, hA⟩ := hf
  have no1 : X11_isBelow a1 2 = some 0 → X1_adopt kf σ ρ 1 a1 a2 a3 = some (-1, σ, ρ) := fun e => by
    unfold X1_adopt
    rw [e]
    rfl
  rcases rng a1 2 (by omega) with ⟨s, hs, rfl, q1, q2⟩ | ⟨q1, q2, -⟩
  · rw [show X12_isIn (nI s) 0 1 = some 1 from q2, bd1_s, if_neg n10]
    rcases rng a2 2 (by omega) with ⟨w, hw, rfl, w1, w2⟩ | ⟨w1, w2, -⟩
    · rw [show X12_isIn (nI w) 0 1 = some 1 from w2, bd1_s, if_neg n10]
      have step : ∀ n, n < 1000 → n = (if w = 0 then 2 else 4) → Same3 kf (bd3 (X1_adopt kf σ ρ 1 (nI s) (nI w) a3) fun r3 σ1 ρ2 => some (r3, σ1, ρ2)) (X12_forms_b29 (nI s) (nI w) a3 (nI n - 1) 0 a3 μ) := by
        intro n hn en
        unfold X12_forms_b29
        rcases rng a3 n hn with ⟨v, hv, rfl, v1, v2⟩ | ⟨v1, v2, -⟩
        · obtain ⟨x1, x2⟩ := C_adopt (kf := kf) (ρ := ρ) hC hs hw (show v < (if w = 0 then 2 else 4) by omega)
          rw [v2, bd1_s, if_neg n10, x1]
          simp (disch := omega) only [bd1_s, bd2_s, bd3_s, bd_e, rdN, wrN, R_ofP0, R_ofP1, R_ofP2, R_ofP3, R_ofSn]
          rw [hA.1 _ (by omega) (by omega)]
          refine ⟨_, _, _, _, rfl, rfl, ⟨fup f (36 + 3 * s + w) v, ?_, ?_, x2, ?_, hA.w (by omega)⟩, hr.keep (KC.rf.up (by omega) (by omega)) KR.rf.up⟩
          · refine hI.up 0 s ?_
            split at en <;> omega
          · exact bdI _ _ _ hB (by omega) (by omega) (by omega)
          · exact hS.up hI.1 (by omega) (by omega)
        · refine Same3.no h0 (r := -1) ?_ (by rw [v2]; rfl)
          have e : X1_choices (nI w) = some (nI n) := by
            rcases (show w = 0 ∨ w = 1 by omega) with rfl | rfl
            · rw [if_pos rfl] at en
              rw [en]
              rfl
            · rw [if_neg (by omega)] at en
              rw [en]
              rfl
          unfold X1_adopt
          rw [show X11_isBelow (nI s) 2 = some 1 from q1, show X11_isBelow (nI w) 2 = some 1 from w1]
          simp only [bd1_s]
          rw [if_neg n10, if_neg n10, e, bd1_s, v1]
          rfl
      rcases (show w = 0 ∨ w = 1 by omega) with rfl | rfl
      · rw [if_pos (show nI 0 = 0 from rfl)]
        exact step 2 (by omega) rfl
      · rw [if_neg (by decide)]
        exact step 4 (by omega) rfl
    · refine Same3.no h0 (r := -1) ?_ (by rw [show X12_isIn a2 0 1 = some 0 from w2]; rfl)
      unfold X1_adopt
      rw [show X11_isBelow (nI s) 2 = some 1 from q1, bd1_s, if_neg n10, show X11_isBelow a2 2 = some 0 from w1]
      rfl
  · exact Same3.no h0 (r := -1) (by rw [no1 q1]; rfl) (by rw [show X12_isIn a1 0 1 = some 0 from q2]; rfl)
theorem E_blows {σ : IM} {ρ : RM} {kf : KF} {μ : IM} (h : All σ ρ kf μ) (a1 : Int32) : Same3 kf (X11_blows kf σ ρ a1) (X12_blows μ a1) := by
  unfold X11_blows X1_setDraught X12_blows
  obtain ⟨⟨f, hf⟩, hr⟩ := h
  have h0 : All σ ρ kf μ := ⟨⟨f, hf⟩, hr⟩
  obtain ⟨hI, hB, hC, hS, hA⟩ := hf
  rcases rng a1 3 (by omega) with ⟨v, hv, rfl, q1, q2⟩ | ⟨q1, q2, -⟩
  · rw [show X11_isBelow (nI v) 3 = some 1 from q1, show X12_isIn (nI v) 0 2 = some 1 from q2, bd1_s, bd1_s, if_neg n10, if_neg n10]
    simp only [bd_e, bd3_s, rd42_3, wr42_3, hC.draught, hA.2]
    refine ⟨nI (f 3) - 1 + 1, _, ρ, _, rfl, rfl, ⟨fup f 3 v, ?_, ?_, ?_, ?_, ?_⟩, hr.keep (KC.rf.up (by omega) (by omega)) KR.rf.up⟩
    · exact hI.up 0 0 (by omega)
    · exact bdI _ _ _ hB (by omega) (by omega) (by omega)
    · exact hC.wDraught
    · exact hS.up hI.1 (by omega) (by omega)
    · exact hA.w3
  · exact Same3.no h0 (r := -1) (by rw [show X11_isBelow a1 3 = some 0 from q1]; rfl) (by rw [show X12_isIn a1 0 2 = some 0 from q2]; rfl)
